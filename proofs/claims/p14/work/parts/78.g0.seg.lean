/-! segments: again, unit -/
set_option maxRecDepth 20000 in
theorem mp_agA_0 (h : sm_H) (d : Nat) (zu za : Int) : mi_path [(227, (4, 0, sb_227)), (209, (4, 0, sb_209))] sx_sk h 9 [1, 1, 0] (d + 6, 227, 0, [some (.inr (.inr 109)), some (.inl (zu)), some (.inl (za)), none], [], [], []) = some ((d + 6, 227, 34, [some (.inr (.inr 109)), some (.inl (zu)), some (.inl (za)), some (.inl ((0 : Int)))], [], [], []), [(mi_f h 14028) ≠ ((0 : Int)), za ≤ ((0 : Int)), ((0 : Int)) = ((0 : Int))]) := rfl
theorem mi_tab_agA_0 : ∀ e ∈ ([(227, (4, 0, sb_227)), (209, (4, 0, sb_209))] : mi_T), sc_P e.1 = some e.2 := mi_tb mi_P227 (mi_tb mi_P209 (mi_tb_e))
set_option maxRecDepth 20000 in
theorem ms_agA_0 {h : sm_H} {d : Nat} {Q : Option mi_V → sm_H → Prop} {zu za : Int} (hS : ab_Sh sx_sk h) (ok_zu : mi_in zu) (ok_za : mi_in za) (ho : ((mi_f h 14028) ≠ ((0 : Int))) ∧ (za ≤ ((0 : Int))) ∧ (((0 : Int)) = ((0 : Int)))) (kon : ∀ h1, me_W [] h h1 → Q none h1) : me_E (d + 6) 227 0 [some (.inr (.inr 109)), some (.inl (zu)), some (.inl (za)), none] [] h Q := me_seg (mp_agA_0 h d zu za) (mi_tab_agA_0) hS (mi_okL_c (trivial) (mi_okL_c (ok_zu) (mi_okL_c (ok_za) (mi_okL_n (mi_okL_e))))) (mi_okS_e) (mi_al (ho.1) (mi_al (ho.2.1) (mi_al (ho.2.2) (mi_al_e)))) (fun h1 W _ hst => me_ret (M := (4, 0, sb_227)) rfl rfl rfl hst (mi_al_e) (kon h1 W))
set_option maxRecDepth 20000 in
theorem mp_agA_1 (h : sm_H) (d : Nat) (zu za : Int) : mi_path [(227, (4, 0, sb_227)), (209, (4, 0, sb_209))] sx_sk h 49 [1, 0, 1, 1, 1, 8, 8] (d + 6, 227, 0, [some (.inr (.inr 109)), some (.inl (zu)), some (.inl (za)), none], [], [], []) = some ((d + 6, 227, 74, [some (.inr (.inr 109)), some (.inl (zu)), some (.inl (za)), some (.inl ((1 : Int)))], [.inl (zu), .inr (.inr 109)], [.inr (.inr (.inl (167, Int.toNat (mi_f h 14029), za - ((1 : Int))))), .inl (14029, (mi_f h 14029) + ((1 : Int))), .inr (.inr (.inl (166, Int.toNat (mi_f h 14029), zu))), .inr (.inr (.inl (165, Int.toNat (mi_f h 14029), (5 : Int))))], []), [(mi_f h 14028) ≠ ((0 : Int)), ((0 : Int)) < za, ((1 : Int)) ≠ ((0 : Int)), (mi_f h 14028) ≠ ((0 : Int)), (mi_f h 14028) ≠ ((0 : Int)), -2147483648 ≤ za - ((1 : Int)) ∧ za - ((1 : Int)) ≤ 2147483647, 0 ≤ (mi_f h 14029) ∧ (mi_f h 14029) < 3000, 0 ≤ (mi_f h 14029) ∧ (mi_f h 14029) < 3000, -2147483648 ≤ (mi_f h 14029) + ((1 : Int)) ∧ (mi_f h 14029) + ((1 : Int)) ≤ 2147483647, 0 ≤ (mi_f h 14029) ∧ (mi_f h 14029) < 3000]) := rfl
theorem mi_tab_agA_1 : ∀ e ∈ ([(227, (4, 0, sb_227)), (209, (4, 0, sb_209))] : mi_T), sc_P e.1 = some e.2 := mi_tb mi_P227 (mi_tb mi_P209 (mi_tb_e))
set_option maxRecDepth 20000 in
theorem ms_agA_1 {h : sm_H} {d : Nat} {Q : Option mi_V → sm_H → Prop} {zu za : Int} (hS : ab_Sh sx_sk h) (ok_zu : mi_in zu) (ok_za : mi_in za) (ho : ((mi_f h 14028) ≠ ((0 : Int))) ∧ (((0 : Int)) < za) ∧ (((1 : Int)) ≠ ((0 : Int))) ∧ ((mi_f h 14028) ≠ ((0 : Int))) ∧ ((mi_f h 14028) ≠ ((0 : Int))) ∧ (-2147483648 ≤ za - ((1 : Int)) ∧ za - ((1 : Int)) ≤ 2147483647) ∧ (0 ≤ (mi_f h 14029) ∧ (mi_f h 14029) < 3000) ∧ (0 ≤ (mi_f h 14029) ∧ (mi_f h 14029) < 3000) ∧ (-2147483648 ≤ (mi_f h 14029) + ((1 : Int)) ∧ (mi_f h 14029) + ((1 : Int)) ≤ 2147483647) ∧ (0 ≤ (mi_f h 14029) ∧ (mi_f h 14029) < 3000)) (kon : ∀ h1, me_W [.inr (.inr (.inl (167, Int.toNat (mi_f h 14029), za - ((1 : Int))))), .inl (14029, (mi_f h 14029) + ((1 : Int))), .inr (.inr (.inl (166, Int.toNat (mi_f h 14029), zu))), .inr (.inr (.inl (165, Int.toNat (mi_f h 14029), (5 : Int))))] h h1 → ∃ Q1, me_E (d + 5) 213 0 (mi_entry 2 [.inr (.inr 109), .inl (zu)]) [] h1 Q1 ∧ ∀ w h2, (∀ x, w = some x → mi_ok x) → Q1 w h2 → me_E (d + 6) 227 77 [some (.inr (.inr 109)), some (.inl (zu)), some (.inl (za)), some (.inl ((1 : Int)))] (mi_back w []) h2 Q) : me_E (d + 6) 227 0 [some (.inr (.inr 109)), some (.inl (zu)), some (.inl (za)), none] [] h Q := me_seg (mp_agA_1 h d zu za) (mi_tab_agA_1) hS (mi_okL_c (trivial) (mi_okL_c (ok_zu) (mi_okL_c (ok_za) (mi_okL_n (mi_okL_e))))) (mi_okS_e) (mi_al (ho.1) (mi_al (ho.2.1) (mi_al (ho.2.2.1) (mi_al (ho.2.2.2.1) (mi_al (ho.2.2.2.2.1) (mi_al (ho.2.2.2.2.2.1) (mi_al (ho.2.2.2.2.2.2.1) (mi_al (ho.2.2.2.2.2.2.2.1) (mi_al (ho.2.2.2.2.2.2.2.2.1) (mi_al (ho.2.2.2.2.2.2.2.2.2) (mi_al_e))))))))))) (fun h1 W _ hst => let ⟨_, k1, k2⟩ := kon h1 W; me_call (M := (4, 0, sb_227)) (M' := (2, 0, sb_213)) rfl rfl rfl rfl (Nat.le_of_ble_eq_true rfl) (Nat.le_of_ble_eq_true rfl) W.1 k1 k2)
set_option maxRecDepth 20000 in
theorem mp_agA_2 (h : sm_H) (d : Nat) (zu za : Int) : mi_path [(227, (4, 0, sb_227)), (209, (4, 0, sb_209))] sx_sk h 8 [0] (d + 6, 227, 0, [some (.inr (.inr 109)), some (.inl (zu)), some (.inl (za)), none], [], [], []) = some ((d + 6, 227, 14, [some (.inr (.inr 109)), some (.inl (zu)), some (.inl (za)), none], [.inr (.inl (mx_b h 134 (Int.toNat zu))), .inr (.inr 109)], [], []), [(mi_f h 14028) = ((0 : Int)), 0 ≤ zu ∧ zu < 60]) := rfl
theorem mi_tab_agA_2 : ∀ e ∈ ([(227, (4, 0, sb_227)), (209, (4, 0, sb_209))] : mi_T), sc_P e.1 = some e.2 := mi_tb mi_P227 (mi_tb mi_P209 (mi_tb_e))
set_option maxRecDepth 20000 in
theorem ms_agA_2 {h : sm_H} {d : Nat} {Q : Option mi_V → sm_H → Prop} {zu za : Int} (hS : ab_Sh sx_sk h) (ok_zu : mi_in zu) (ok_za : mi_in za) (ho : ((mi_f h 14028) = ((0 : Int))) ∧ (0 ≤ zu ∧ zu < 60)) (kon : ∀ h1, me_W [] h h1 → ∃ Q1, me_E (d + 5) 212 0 (mi_entry 3 [.inr (.inr 109), .inr (.inl (mx_b h 134 (Int.toNat zu)))]) [] h1 Q1 ∧ ∀ w h2, (∀ x, w = some x → mi_ok x) → Q1 w h2 → me_E (d + 6) 227 17 [some (.inr (.inr 109)), some (.inl (zu)), some (.inl (za)), none] (mi_back w []) h2 Q) : me_E (d + 6) 227 0 [some (.inr (.inr 109)), some (.inl (zu)), some (.inl (za)), none] [] h Q := me_seg (mp_agA_2 h d zu za) (mi_tab_agA_2) hS (mi_okL_c (trivial) (mi_okL_c (ok_zu) (mi_okL_c (ok_za) (mi_okL_n (mi_okL_e))))) (mi_okS_e) (mi_al (ho.1) (mi_al (ho.2) (mi_al_e))) (fun h1 W _ hst => let ⟨_, k1, k2⟩ := kon h1 W; me_call (M := (4, 0, sb_227)) (M' := (3, 4, sb_212)) rfl rfl rfl rfl (Nat.le_of_ble_eq_true rfl) (Nat.le_of_ble_eq_true rfl) W.1 k1 k2)
set_option maxRecDepth 20000 in
theorem mt_agA {h : sm_H} {d : Nat} {Q : Option mi_V → sm_H → Prop} {zu za : Int} (hS : ab_Sh sx_sk h) (ok_zu : mi_in zu) (ok_za : mi_in za) (k0 : ((-2147483648) ≤ mi_f h 14028 ∧ mi_f h 14028 ≤ 2147483647) → ((mi_f h 14028) ≠ ((0 : Int))) → (za ≤ ((0 : Int))) → (∀ h1, ab_Sh sx_sk h1 → ab_Fr [] h h1 → Q none h1)) (k1 : ((-2147483648) ≤ mi_f h 14028 ∧ mi_f h 14028 ≤ 2147483647) → ((-2147483648) ≤ mi_f h 14029 ∧ mi_f h 14029 ≤ 2147483647) → ((mi_f h 14028) ≠ ((0 : Int))) → (((0 : Int)) < za) → ((-2147483648 ≤ za - ((1 : Int)) ∧ za - ((1 : Int)) ≤ 2147483647) ∧ (0 ≤ (mi_f h 14029) ∧ (mi_f h 14029) < 3000) ∧ (-2147483648 ≤ (mi_f h 14029) + ((1 : Int)) ∧ (mi_f h 14029) + ((1 : Int)) ≤ 2147483647)) ∧ (∀ h1, ab_Sh sx_sk h1 → mi_f h1 14029 = (mi_f h 14029) + ((1 : Int)) → (∀ i, mi_a h1 165 i = if i = Int.toNat (mi_f h 14029) then (5 : Int) else (mi_a h 165 i)) → (∀ i, mi_a h1 166 i = if i = Int.toNat (mi_f h 14029) then zu else (mi_a h 166 i)) → (∀ i, mi_a h1 167 i = if i = Int.toNat (mi_f h 14029) then za - ((1 : Int)) else (mi_a h 167 i)) → ab_Fr [(14029, 14030), (21120, 21121), (21248, 21249), (21376, 21377)] h h1 → ∃ Q1, me_E (d + 5) 213 0 (mi_entry 2 [.inr (.inr 109), .inl (zu)]) [] h1 Q1 ∧ ∀ w h2, (∀ x, w = some x → mi_ok x) → Q1 w h2 → me_E (d + 6) 227 77 [some (.inr (.inr 109)), some (.inl (zu)), some (.inl (za)), some (.inl ((1 : Int)))] (mi_back w []) h2 Q)) (k2 : ((-2147483648) ≤ mi_f h 14028 ∧ mi_f h 14028 ≤ 2147483647) → ((mi_f h 14028) = ((0 : Int))) → ((0 ≤ zu ∧ zu < 60)) ∧ (∀ h1, ab_Sh sx_sk h1 → ab_Fr [] h h1 → ∃ Q1, me_E (d + 5) 212 0 (mi_entry 3 [.inr (.inr 109), .inr (.inl (mx_b h 134 (Int.toNat zu)))]) [] h1 Q1 ∧ ∀ w h2, (∀ x, w = some x → mi_ok x) → Q1 w h2 → me_E (d + 6) 227 17 [some (.inr (.inr 109)), some (.inl (zu)), some (.inl (za)), none] (mi_back w []) h2 Q)) : me_E (d + 6) 227 0 [some (.inr (.inr 109)), some (.inl (zu)), some (.inl (za)), none] [] h Q := Or.elim (mi_em .ne ((mi_f h 14028)) (((0 : Int)))) (fun c0 => Or.elim (mi_em .le (za) (((0 : Int)))) (fun c1 => ms_agA_0 hS ok_zu ok_za ⟨c0, c1, (by decide)⟩ (fun h1 W => (k0 (me_fb hS rfl) c0 c1) h1 W.1 (W.2.2.2.2.2 _ rfl))) (fun c1 => ms_agA_1 hS ok_zu ok_za ⟨c0, c1, (by decide), c0, c0, (k1 (me_fb hS rfl) (me_fb hS rfl) c0 c1).1.1, (k1 (me_fb hS rfl) (me_fb hS rfl) c0 c1).1.2.1, (k1 (me_fb hS rfl) (me_fb hS rfl) c0 c1).1.2.1, (k1 (me_fb hS rfl) (me_fb hS rfl) c0 c1).1.2.2, (k1 (me_fb hS rfl) (me_fb hS rfl) c0 c1).1.2.1⟩ (fun h1 W => (k1 (me_fb hS rfl) (me_fb hS rfl) c0 c1).2 h1 W.1 (W.2.1 14029) (fun i => W.2.2.1 165 i) (fun i => W.2.2.1 166 i) (fun i => W.2.2.1 167 i) (W.2.2.2.2.2 _ rfl)))) (fun c0 => ms_agA_2 hS ok_zu ok_za ⟨c0, (k2 (me_fb hS rfl) c0).1⟩ (fun h1 W => (k2 (me_fb hS rfl) c0).2 h1 W.1 (W.2.2.2.2.2 _ rfl)))
set_option maxRecDepth 20000 in
theorem mp_agB_0 (h : sm_H) (d : Nat) (zu za zz : Int) : mi_path [(227, (4, 0, sb_227)), (209, (4, 0, sb_209))] sx_sk h 43 [1, 1, 1, 8, 8] (d + 6, 227, 17, [some (.inr (.inr 109)), some (.inl (zu)), some (.inl (za)), none], [.inl (zz)], [], []) = some ((d + 6, 227, 74, [some (.inr (.inr 109)), some (.inl (zu)), some (.inl (za)), some (.inl (zz))], [.inl (zu), .inr (.inr 109)], [.inr (.inr (.inl (167, Int.toNat (mi_f h 14029), za - ((1 : Int))))), .inl (14029, (mi_f h 14029) + ((1 : Int))), .inr (.inr (.inl (166, Int.toNat (mi_f h 14029), zu))), .inr (.inr (.inl (165, Int.toNat (mi_f h 14029), (5 : Int))))], []), [zz ≠ ((0 : Int)), (mi_f h 14028) ≠ ((0 : Int)), (mi_f h 14028) ≠ ((0 : Int)), -2147483648 ≤ za - ((1 : Int)) ∧ za - ((1 : Int)) ≤ 2147483647, 0 ≤ (mi_f h 14029) ∧ (mi_f h 14029) < 3000, 0 ≤ (mi_f h 14029) ∧ (mi_f h 14029) < 3000, -2147483648 ≤ (mi_f h 14029) + ((1 : Int)) ∧ (mi_f h 14029) + ((1 : Int)) ≤ 2147483647, 0 ≤ (mi_f h 14029) ∧ (mi_f h 14029) < 3000]) := rfl
theorem mi_tab_agB_0 : ∀ e ∈ ([(227, (4, 0, sb_227)), (209, (4, 0, sb_209))] : mi_T), sc_P e.1 = some e.2 := mi_tb mi_P227 (mi_tb mi_P209 (mi_tb_e))
set_option maxRecDepth 20000 in
theorem ms_agB_0 {h : sm_H} {d : Nat} {Q : Option mi_V → sm_H → Prop} {zu za zz : Int} (hS : ab_Sh sx_sk h) (ok_zu : mi_in zu) (ok_za : mi_in za) (ok_zz : mi_in zz) (ho : (zz ≠ ((0 : Int))) ∧ ((mi_f h 14028) ≠ ((0 : Int))) ∧ ((mi_f h 14028) ≠ ((0 : Int))) ∧ (-2147483648 ≤ za - ((1 : Int)) ∧ za - ((1 : Int)) ≤ 2147483647) ∧ (0 ≤ (mi_f h 14029) ∧ (mi_f h 14029) < 3000) ∧ (0 ≤ (mi_f h 14029) ∧ (mi_f h 14029) < 3000) ∧ (-2147483648 ≤ (mi_f h 14029) + ((1 : Int)) ∧ (mi_f h 14029) + ((1 : Int)) ≤ 2147483647) ∧ (0 ≤ (mi_f h 14029) ∧ (mi_f h 14029) < 3000)) (kon : ∀ h1, me_W [.inr (.inr (.inl (167, Int.toNat (mi_f h 14029), za - ((1 : Int))))), .inl (14029, (mi_f h 14029) + ((1 : Int))), .inr (.inr (.inl (166, Int.toNat (mi_f h 14029), zu))), .inr (.inr (.inl (165, Int.toNat (mi_f h 14029), (5 : Int))))] h h1 → ∃ Q1, me_E (d + 5) 213 0 (mi_entry 2 [.inr (.inr 109), .inl (zu)]) [] h1 Q1 ∧ ∀ w h2, (∀ x, w = some x → mi_ok x) → Q1 w h2 → me_E (d + 6) 227 77 [some (.inr (.inr 109)), some (.inl (zu)), some (.inl (za)), some (.inl (zz))] (mi_back w []) h2 Q) : me_E (d + 6) 227 17 [some (.inr (.inr 109)), some (.inl (zu)), some (.inl (za)), none] [.inl (zz)] h Q := me_seg (mp_agB_0 h d zu za zz) (mi_tab_agB_0) hS (mi_okL_c (trivial) (mi_okL_c (ok_zu) (mi_okL_c (ok_za) (mi_okL_n (mi_okL_e))))) (mi_okS_cons (ok_zz) (mi_okS_e)) (mi_al (ho.1) (mi_al (ho.2.1) (mi_al (ho.2.2.1) (mi_al (ho.2.2.2.1) (mi_al (ho.2.2.2.2.1) (mi_al (ho.2.2.2.2.2.1) (mi_al (ho.2.2.2.2.2.2.1) (mi_al (ho.2.2.2.2.2.2.2) (mi_al_e))))))))) (fun h1 W _ hst => let ⟨_, k1, k2⟩ := kon h1 W; me_call (M := (4, 0, sb_227)) (M' := (2, 0, sb_213)) rfl rfl rfl rfl (Nat.le_of_ble_eq_true rfl) (Nat.le_of_ble_eq_true rfl) W.1 k1 k2)
set_option maxRecDepth 20000 in
theorem mp_agB_1 (h : sm_H) (d : Nat) (zu za zz : Int) : mi_path [(227, (4, 0, sb_227)), (209, (4, 0, sb_209))] sx_sk h 50 [1, 0, 0, 8] (d + 6, 227, 17, [some (.inr (.inr 109)), some (.inl (zu)), some (.inl (za)), none], [.inl (zz)], [], []) = some ((d + 6, 227, 74, [some (.inr (.inr 109)), some (.inl (zu)), some (.inl (za)), some (.inl (zz))], [.inl (zu), .inr (.inr 109)], [.inr (.inr (.inl (167, Int.toNat (mi_f h 14029), za))), .inl (14029, (mi_f h 14029) + ((1 : Int))), .inr (.inr (.inl (166, Int.toNat (mi_f h 14029), zu))), .inr (.inr (.inl (165, Int.toNat (mi_f h 14029), (5 : Int)))), .inr (.inr (.inr (163, Int.toNat za, (mx_b h 163 (Int.toNat za)) + (Int64.ofNat 1))))], []), [zz ≠ ((0 : Int)), (mi_f h 14028) = ((0 : Int)), 0 ≤ za ∧ za < 100, 0 ≤ za ∧ za < 100, (mi_f h 14028) = ((0 : Int)), 0 ≤ (mi_f h 14029) ∧ (mi_f h 14029) < 3000, 0 ≤ (mi_f h 14029) ∧ (mi_f h 14029) < 3000, -2147483648 ≤ (mi_f h 14029) + ((1 : Int)) ∧ (mi_f h 14029) + ((1 : Int)) ≤ 2147483647, 0 ≤ (mi_f h 14029) ∧ (mi_f h 14029) < 3000]) := rfl
theorem mi_tab_agB_1 : ∀ e ∈ ([(227, (4, 0, sb_227)), (209, (4, 0, sb_209))] : mi_T), sc_P e.1 = some e.2 := mi_tb mi_P227 (mi_tb mi_P209 (mi_tb_e))
set_option maxRecDepth 20000 in
theorem ms_agB_1 {h : sm_H} {d : Nat} {Q : Option mi_V → sm_H → Prop} {zu za zz : Int} (hS : ab_Sh sx_sk h) (ok_zu : mi_in zu) (ok_za : mi_in za) (ok_zz : mi_in zz) (ho : (zz ≠ ((0 : Int))) ∧ ((mi_f h 14028) = ((0 : Int))) ∧ (0 ≤ za ∧ za < 100) ∧ (0 ≤ za ∧ za < 100) ∧ ((mi_f h 14028) = ((0 : Int))) ∧ (0 ≤ (mi_f h 14029) ∧ (mi_f h 14029) < 3000) ∧ (0 ≤ (mi_f h 14029) ∧ (mi_f h 14029) < 3000) ∧ (-2147483648 ≤ (mi_f h 14029) + ((1 : Int)) ∧ (mi_f h 14029) + ((1 : Int)) ≤ 2147483647) ∧ (0 ≤ (mi_f h 14029) ∧ (mi_f h 14029) < 3000)) (kon : ∀ h1, me_W [.inr (.inr (.inl (167, Int.toNat (mi_f h 14029), za))), .inl (14029, (mi_f h 14029) + ((1 : Int))), .inr (.inr (.inl (166, Int.toNat (mi_f h 14029), zu))), .inr (.inr (.inl (165, Int.toNat (mi_f h 14029), (5 : Int)))), .inr (.inr (.inr (163, Int.toNat za, (mx_b h 163 (Int.toNat za)) + (Int64.ofNat 1))))] h h1 → ∃ Q1, me_E (d + 5) 213 0 (mi_entry 2 [.inr (.inr 109), .inl (zu)]) [] h1 Q1 ∧ ∀ w h2, (∀ x, w = some x → mi_ok x) → Q1 w h2 → me_E (d + 6) 227 77 [some (.inr (.inr 109)), some (.inl (zu)), some (.inl (za)), some (.inl (zz))] (mi_back w []) h2 Q) : me_E (d + 6) 227 17 [some (.inr (.inr 109)), some (.inl (zu)), some (.inl (za)), none] [.inl (zz)] h Q := me_seg (mp_agB_1 h d zu za zz) (mi_tab_agB_1) hS (mi_okL_c (trivial) (mi_okL_c (ok_zu) (mi_okL_c (ok_za) (mi_okL_n (mi_okL_e))))) (mi_okS_cons (ok_zz) (mi_okS_e)) (mi_al (ho.1) (mi_al (ho.2.1) (mi_al (ho.2.2.1) (mi_al (ho.2.2.2.1) (mi_al (ho.2.2.2.2.1) (mi_al (ho.2.2.2.2.2.1) (mi_al (ho.2.2.2.2.2.2.1) (mi_al (ho.2.2.2.2.2.2.2.1) (mi_al (ho.2.2.2.2.2.2.2.2) (mi_al_e)))))))))) (fun h1 W _ hst => let ⟨_, k1, k2⟩ := kon h1 W; me_call (M := (4, 0, sb_227)) (M' := (2, 0, sb_213)) rfl rfl rfl rfl (Nat.le_of_ble_eq_true rfl) (Nat.le_of_ble_eq_true rfl) W.1 k1 k2)
set_option maxRecDepth 20000 in
theorem mp_agB_2 (h : sm_H) (d : Nat) (zu za zz : Int) : mi_path [(227, (4, 0, sb_227)), (209, (4, 0, sb_209))] sx_sk h 4 [0] (d + 6, 227, 17, [some (.inr (.inr 109)), some (.inl (zu)), some (.inl (za)), none], [.inl (zz)], [], []) = some ((d + 6, 227, 34, [some (.inr (.inr 109)), some (.inl (zu)), some (.inl (za)), some (.inl (zz))], [], [], []), [zz = ((0 : Int))]) := rfl
theorem mi_tab_agB_2 : ∀ e ∈ ([(227, (4, 0, sb_227)), (209, (4, 0, sb_209))] : mi_T), sc_P e.1 = some e.2 := mi_tb mi_P227 (mi_tb mi_P209 (mi_tb_e))
set_option maxRecDepth 20000 in
theorem ms_agB_2 {h : sm_H} {d : Nat} {Q : Option mi_V → sm_H → Prop} {zu za zz : Int} (hS : ab_Sh sx_sk h) (ok_zu : mi_in zu) (ok_za : mi_in za) (ok_zz : mi_in zz) (ho : (zz = ((0 : Int)))) (kon : ∀ h1, me_W [] h h1 → Q none h1) : me_E (d + 6) 227 17 [some (.inr (.inr 109)), some (.inl (zu)), some (.inl (za)), none] [.inl (zz)] h Q := me_seg (mp_agB_2 h d zu za zz) (mi_tab_agB_2) hS (mi_okL_c (trivial) (mi_okL_c (ok_zu) (mi_okL_c (ok_za) (mi_okL_n (mi_okL_e))))) (mi_okS_cons (ok_zz) (mi_okS_e)) (mi_al (ho) (mi_al_e)) (fun h1 W _ hst => me_ret (M := (4, 0, sb_227)) rfl rfl rfl hst (mi_al_e) (kon h1 W))
set_option maxRecDepth 20000 in
theorem mt_agB {h : sm_H} {d : Nat} {Q : Option mi_V → sm_H → Prop} {zu za zz : Int} (hS : ab_Sh sx_sk h) (ok_zu : mi_in zu) (ok_za : mi_in za) (ok_zz : mi_in zz) (k0 : ((-2147483648) ≤ mi_f h 14028 ∧ mi_f h 14028 ≤ 2147483647) → ((-2147483648) ≤ mi_f h 14029 ∧ mi_f h 14029 ≤ 2147483647) → (zz ≠ ((0 : Int))) → ((mi_f h 14028) ≠ ((0 : Int))) → ((-2147483648 ≤ za - ((1 : Int)) ∧ za - ((1 : Int)) ≤ 2147483647) ∧ (0 ≤ (mi_f h 14029) ∧ (mi_f h 14029) < 3000) ∧ (-2147483648 ≤ (mi_f h 14029) + ((1 : Int)) ∧ (mi_f h 14029) + ((1 : Int)) ≤ 2147483647)) ∧ (∀ h1, ab_Sh sx_sk h1 → mi_f h1 14029 = (mi_f h 14029) + ((1 : Int)) → (∀ i, mi_a h1 165 i = if i = Int.toNat (mi_f h 14029) then (5 : Int) else (mi_a h 165 i)) → (∀ i, mi_a h1 166 i = if i = Int.toNat (mi_f h 14029) then zu else (mi_a h 166 i)) → (∀ i, mi_a h1 167 i = if i = Int.toNat (mi_f h 14029) then za - ((1 : Int)) else (mi_a h 167 i)) → ab_Fr [(14029, 14030), (21120, 21121), (21248, 21249), (21376, 21377)] h h1 → ∃ Q1, me_E (d + 5) 213 0 (mi_entry 2 [.inr (.inr 109), .inl (zu)]) [] h1 Q1 ∧ ∀ w h2, (∀ x, w = some x → mi_ok x) → Q1 w h2 → me_E (d + 6) 227 77 [some (.inr (.inr 109)), some (.inl (zu)), some (.inl (za)), some (.inl (zz))] (mi_back w []) h2 Q)) (k1 : ((-2147483648) ≤ mi_f h 14028 ∧ mi_f h 14028 ≤ 2147483647) → ((-2147483648) ≤ mi_f h 14029 ∧ mi_f h 14029 ≤ 2147483647) → (zz ≠ ((0 : Int))) → ((mi_f h 14028) = ((0 : Int))) → ((0 ≤ za ∧ za < 100) ∧ (0 ≤ (mi_f h 14029) ∧ (mi_f h 14029) < 3000) ∧ (-2147483648 ≤ (mi_f h 14029) + ((1 : Int)) ∧ (mi_f h 14029) + ((1 : Int)) ≤ 2147483647)) ∧ (∀ h1, ab_Sh sx_sk h1 → mi_f h1 14029 = (mi_f h 14029) + ((1 : Int)) → (∀ i, mi_a h1 165 i = if i = Int.toNat (mi_f h 14029) then (5 : Int) else (mi_a h 165 i)) → (∀ i, mi_a h1 166 i = if i = Int.toNat (mi_f h 14029) then zu else (mi_a h 166 i)) → (∀ i, mi_a h1 167 i = if i = Int.toNat (mi_f h 14029) then za else (mi_a h 167 i)) → (∀ i, mx_b h1 163 i = if i = Int.toNat za then (mx_b h 163 (Int.toNat za)) + (Int64.ofNat 1) else (mx_b h 163 i)) → ab_Fr [(14029, 14030), (20864, 20865), (21120, 21121), (21248, 21249), (21376, 21377)] h h1 → ∃ Q1, me_E (d + 5) 213 0 (mi_entry 2 [.inr (.inr 109), .inl (zu)]) [] h1 Q1 ∧ ∀ w h2, (∀ x, w = some x → mi_ok x) → Q1 w h2 → me_E (d + 6) 227 77 [some (.inr (.inr 109)), some (.inl (zu)), some (.inl (za)), some (.inl (zz))] (mi_back w []) h2 Q)) (k2 : (zz = ((0 : Int))) → (∀ h1, ab_Sh sx_sk h1 → ab_Fr [] h h1 → Q none h1)) : me_E (d + 6) 227 17 [some (.inr (.inr 109)), some (.inl (zu)), some (.inl (za)), none] [.inl (zz)] h Q := Or.elim (mi_em .ne (zz) (((0 : Int)))) (fun c0 => Or.elim (mi_em .ne ((mi_f h 14028)) (((0 : Int)))) (fun c1 => ms_agB_0 hS ok_zu ok_za ok_zz ⟨c0, c1, c1, (k0 (me_fb hS rfl) (me_fb hS rfl) c0 c1).1.1, (k0 (me_fb hS rfl) (me_fb hS rfl) c0 c1).1.2.1, (k0 (me_fb hS rfl) (me_fb hS rfl) c0 c1).1.2.1, (k0 (me_fb hS rfl) (me_fb hS rfl) c0 c1).1.2.2, (k0 (me_fb hS rfl) (me_fb hS rfl) c0 c1).1.2.1⟩ (fun h1 W => (k0 (me_fb hS rfl) (me_fb hS rfl) c0 c1).2 h1 W.1 (W.2.1 14029) (fun i => W.2.2.1 165 i) (fun i => W.2.2.1 166 i) (fun i => W.2.2.1 167 i) (W.2.2.2.2.2 _ rfl))) (fun c1 => ms_agB_1 hS ok_zu ok_za ok_zz ⟨c0, c1, (k1 (me_fb hS rfl) (me_fb hS rfl) c0 c1).1.1, (k1 (me_fb hS rfl) (me_fb hS rfl) c0 c1).1.1, c1, (k1 (me_fb hS rfl) (me_fb hS rfl) c0 c1).1.2.1, (k1 (me_fb hS rfl) (me_fb hS rfl) c0 c1).1.2.1, (k1 (me_fb hS rfl) (me_fb hS rfl) c0 c1).1.2.2, (k1 (me_fb hS rfl) (me_fb hS rfl) c0 c1).1.2.1⟩ (fun h1 W => (k1 (me_fb hS rfl) (me_fb hS rfl) c0 c1).2 h1 W.1 (W.2.1 14029) (fun i => W.2.2.1 165 i) (fun i => W.2.2.1 166 i) (fun i => W.2.2.1 167 i) (fun i => W.2.2.2.2.1 163 i) (W.2.2.2.2.2 _ rfl)))) (fun c0 => ms_agB_2 hS ok_zu ok_za ok_zz (c0) (fun h1 W => (k2 c0) h1 W.1 (W.2.2.2.2.2 _ rfl)))
set_option maxRecDepth 20000 in
theorem mp_agC_0 (h : sm_H) (d : Nat) (zu za zm : Int) : mi_path [(227, (4, 0, sb_227))] sx_sk h 0 [] (d + 6, 227, 77, [some (.inr (.inr 109)), some (.inl (zu)), some (.inl (za)), some (.inl (zm))], [], [], []) = some ((d + 6, 227, 77, [some (.inr (.inr 109)), some (.inl (zu)), some (.inl (za)), some (.inl (zm))], [], [], []), []) := rfl
theorem mi_tab_agC_0 : ∀ e ∈ ([(227, (4, 0, sb_227))] : mi_T), sc_P e.1 = some e.2 := mi_tb mi_P227 (mi_tb_e)
set_option maxRecDepth 20000 in
theorem ms_agC_0 {h : sm_H} {d : Nat} {Q : Option mi_V → sm_H → Prop} {zu za zm : Int} (hS : ab_Sh sx_sk h) (ok_zu : mi_in zu) (ok_za : mi_in za) (ok_zm : mi_in zm) (kon : ∀ h1, me_W [] h h1 → Q none h1) : me_E (d + 6) 227 77 [some (.inr (.inr 109)), some (.inl (zu)), some (.inl (za)), some (.inl (zm))] [] h Q := me_seg (mp_agC_0 h d zu za zm) (mi_tab_agC_0) hS (mi_okL_c (trivial) (mi_okL_c (ok_zu) (mi_okL_c (ok_za) (mi_okL_c (ok_zm) (mi_okL_e))))) (mi_okS_e) (mi_al_e) (fun h1 W _ hst => me_ret (M := (4, 0, sb_227)) rfl rfl rfl hst (mi_al_e) (kon h1 W))
set_option maxRecDepth 20000 in
theorem mt_agC {h : sm_H} {d : Nat} {Q : Option mi_V → sm_H → Prop} {zu za zm : Int} (hS : ab_Sh sx_sk h) (ok_zu : mi_in zu) (ok_za : mi_in za) (ok_zm : mi_in zm) (k0 : (∀ h1, ab_Sh sx_sk h1 → ab_Fr [] h h1 → Q none h1)) : me_E (d + 6) 227 77 [some (.inr (.inr 109)), some (.inl (zu)), some (.inl (za)), some (.inl (zm))] [] h Q := ms_agC_0 hS ok_zu ok_za ok_zm (fun h1 W => (k0) h1 W.1 (W.2.2.2.2.2 _ rfl))
set_option maxRecDepth 20000 in
theorem mp_unA_0 (h : sm_H) (d : Nat) (zu zo : Int) : mi_path [(210, (5, 0, sb_210))] sx_sk h 2 [1] (d + 6, 210, 0, [some (.inr (.inr 109)), some (.inl (zu)), some (.inl (zo)), none, none], [], [], []) = some ((d + 6, 210, 24, [some (.inr (.inr 109)), some (.inl (zu)), some (.inl (zo)), none, none], [], [], []), [zo = ((0 : Int))]) := rfl
theorem mi_tab_unA_0 : ∀ e ∈ ([(210, (5, 0, sb_210))] : mi_T), sc_P e.1 = some e.2 := mi_tb mi_P210 (mi_tb_e)
set_option maxRecDepth 20000 in
theorem ms_unA_0 {h : sm_H} {d : Nat} {Q : Option mi_V → sm_H → Prop} {zu zo : Int} (hS : ab_Sh sx_sk h) (ok_zu : mi_in zu) (ok_zo : mi_in zo) (ho : (zo = ((0 : Int)))) (kon : ∀ h1, me_W [] h h1 → me_E (d + 6) 210 24 [some (.inr (.inr 109)), some (.inl (zu)), some (.inl (zo)), none, none] [] h1 Q) : me_E (d + 6) 210 0 [some (.inr (.inr 109)), some (.inl (zu)), some (.inl (zo)), none, none] [] h Q := me_seg (mp_unA_0 h d zu zo) (mi_tab_unA_0) hS (mi_okL_c (trivial) (mi_okL_c (ok_zu) (mi_okL_c (ok_zo) (mi_okL_n (mi_okL_n (mi_okL_e)))))) (mi_okS_e) (mi_al (ho) (mi_al_e)) (fun h1 W _ hst => kon h1 W)
set_option maxRecDepth 20000 in
theorem mp_unA_1 (h : sm_H) (d : Nat) (zu zo : Int) : mi_path [(210, (5, 0, sb_210))] sx_sk h 14 [0, 8] (d + 6, 210, 0, [some (.inr (.inr 109)), some (.inl (zu)), some (.inl (zo)), none, none], [], [], []) = some ((d + 6, 210, 24, [some (.inr (.inr 109)), some (.inl (zu)), some (.inl (zo)), none, none], [], [.inr (.inr (.inl (168, Int.toNat (mi_f h 14030), mi_f h 14016))), .inl (14030, (mi_f h 14030) + ((1 : Int)))], []), [zo ≠ ((0 : Int)), -2147483648 ≤ (mi_f h 14030) + ((1 : Int)) ∧ (mi_f h 14030) + ((1 : Int)) ≤ 2147483647, 0 ≤ (mi_f h 14030) ∧ (mi_f h 14030) < 64, 0 ≤ (mi_f h 14016) ∧ (mi_f h 14016) ≤ 100]) := rfl
theorem mi_tab_unA_1 : ∀ e ∈ ([(210, (5, 0, sb_210))] : mi_T), sc_P e.1 = some e.2 := mi_tb mi_P210 (mi_tb_e)
set_option maxRecDepth 20000 in
theorem ms_unA_1 {h : sm_H} {d : Nat} {Q : Option mi_V → sm_H → Prop} {zu zo : Int} (hS : ab_Sh sx_sk h) (ok_zu : mi_in zu) (ok_zo : mi_in zo) (ho : (zo ≠ ((0 : Int))) ∧ (-2147483648 ≤ (mi_f h 14030) + ((1 : Int)) ∧ (mi_f h 14030) + ((1 : Int)) ≤ 2147483647) ∧ (0 ≤ (mi_f h 14030) ∧ (mi_f h 14030) < 64) ∧ (0 ≤ (mi_f h 14016) ∧ (mi_f h 14016) ≤ 100)) (kon : ∀ h1, me_W [.inr (.inr (.inl (168, Int.toNat (mi_f h 14030), mi_f h 14016))), .inl (14030, (mi_f h 14030) + ((1 : Int)))] h h1 → me_E (d + 6) 210 24 [some (.inr (.inr 109)), some (.inl (zu)), some (.inl (zo)), none, none] [] h1 Q) : me_E (d + 6) 210 0 [some (.inr (.inr 109)), some (.inl (zu)), some (.inl (zo)), none, none] [] h Q := me_seg (mp_unA_1 h d zu zo) (mi_tab_unA_1) hS (mi_okL_c (trivial) (mi_okL_c (ok_zu) (mi_okL_c (ok_zo) (mi_okL_n (mi_okL_n (mi_okL_e)))))) (mi_okS_e) (mi_al (ho.1) (mi_al (ho.2.1) (mi_al (ho.2.2.1) (mi_al (ho.2.2.2) (mi_al_e))))) (fun h1 W _ hst => kon h1 W)
set_option maxRecDepth 20000 in
theorem mt_unA {h : sm_H} {d : Nat} {Q : Option mi_V → sm_H → Prop} {zu zo : Int} (hS : ab_Sh sx_sk h) (ok_zu : mi_in zu) (ok_zo : mi_in zo) (k0 : (zo = ((0 : Int))) → (∀ h1, ab_Sh sx_sk h1 → ab_Fr [] h h1 → me_E (d + 6) 210 24 [some (.inr (.inr 109)), some (.inl (zu)), some (.inl (zo)), none, none] [] h1 Q)) (k1 : ((-2147483648) ≤ mi_f h 14030 ∧ mi_f h 14030 ≤ 2147483647) → (0 ≤ mi_f h 14016 ∧ mi_f h 14016 ≤ 100) → (zo ≠ ((0 : Int))) → ((-2147483648 ≤ (mi_f h 14030) + ((1 : Int)) ∧ (mi_f h 14030) + ((1 : Int)) ≤ 2147483647) ∧ (0 ≤ (mi_f h 14030) ∧ (mi_f h 14030) < 64) ∧ (0 ≤ (mi_f h 14016) ∧ (mi_f h 14016) ≤ 100)) ∧ (∀ h1, ab_Sh sx_sk h1 → mi_f h1 14030 = (mi_f h 14030) + ((1 : Int)) → (∀ i, mi_a h1 168 i = if i = Int.toNat (mi_f h 14030) then mi_f h 14016 else (mi_a h 168 i)) → ab_Fr [(14030, 14031), (21504, 21505)] h h1 → me_E (d + 6) 210 24 [some (.inr (.inr 109)), some (.inl (zu)), some (.inl (zo)), none, none] [] h1 Q)) : me_E (d + 6) 210 0 [some (.inr (.inr 109)), some (.inl (zu)), some (.inl (zo)), none, none] [] h Q := Or.elim (mi_em .eq (zo) (((0 : Int)))) (fun c0 => ms_unA_0 hS ok_zu ok_zo (c0) (fun h1 W => (k0 c0) h1 W.1 (W.2.2.2.2.2 _ rfl))) (fun c0 => ms_unA_1 hS ok_zu ok_zo ⟨c0, (k1 (me_fb hS rfl) (me_fb hS rfl) c0).1.1, (k1 (me_fb hS rfl) (me_fb hS rfl) c0).1.2.1, (k1 (me_fb hS rfl) (me_fb hS rfl) c0).1.2.2⟩ (fun h1 W => (k1 (me_fb hS rfl) (me_fb hS rfl) c0).2 h1 W.1 (W.2.1 14030) (fun i => W.2.2.1 168 i) (W.2.2.2.2.2 _ rfl)))
set_option maxRecDepth 20000 in
theorem mp_unB_0 (h : sm_H) (d : Nat) (zu zo : Int) : mi_path [(210, (5, 0, sb_210))] sx_sk h 14 [1, 1] (d + 6, 210, 24, [some (.inr (.inr 109)), some (.inl (zu)), some (.inl (zo)), none, none], [], [], []) = some ((d + 6, 210, 256, [some (.inr (.inr 109)), some (.inl (zu)), some (.inl (zo)), none, none], [.inl (zu), .inr (.inr 109)], [], []), [0 ≤ zu ∧ zu < 60, (mi_a h 122 (Int.toNat zu)) ≠ ((1 : Int)), 0 ≤ zu ∧ zu < 60, (mi_a h 122 (Int.toNat zu)) ≠ ((2 : Int))]) := rfl
theorem mi_tab_unB_0 : ∀ e ∈ ([(210, (5, 0, sb_210))] : mi_T), sc_P e.1 = some e.2 := mi_tb mi_P210 (mi_tb_e)
set_option maxRecDepth 20000 in
theorem ms_unB_0 {h : sm_H} {d : Nat} {Q : Option mi_V → sm_H → Prop} {zu zo : Int} (hS : ab_Sh sx_sk h) (ok_zu : mi_in zu) (ok_zo : mi_in zo) (ho : (0 ≤ zu ∧ zu < 60) ∧ ((mi_a h 122 (Int.toNat zu)) ≠ ((1 : Int))) ∧ (0 ≤ zu ∧ zu < 60) ∧ ((mi_a h 122 (Int.toNat zu)) ≠ ((2 : Int)))) (kon : ∀ h1, me_W [] h h1 → ∃ Q1, me_E (d + 5) 213 0 (mi_entry 2 [.inr (.inr 109), .inl (zu)]) [] h1 Q1 ∧ ∀ w h2, (∀ x, w = some x → mi_ok x) → Q1 w h2 → me_E (d + 6) 210 259 [some (.inr (.inr 109)), some (.inl (zu)), some (.inl (zo)), none, none] (mi_back w []) h2 Q) : me_E (d + 6) 210 24 [some (.inr (.inr 109)), some (.inl (zu)), some (.inl (zo)), none, none] [] h Q := me_seg (mp_unB_0 h d zu zo) (mi_tab_unB_0) hS (mi_okL_c (trivial) (mi_okL_c (ok_zu) (mi_okL_c (ok_zo) (mi_okL_n (mi_okL_n (mi_okL_e)))))) (mi_okS_e) (mi_al (ho.1) (mi_al (ho.2.1) (mi_al (ho.2.2.1) (mi_al (ho.2.2.2) (mi_al_e))))) (fun h1 W _ hst => let ⟨_, k1, k2⟩ := kon h1 W; me_call (M := (5, 0, sb_210)) (M' := (2, 0, sb_213)) rfl rfl rfl rfl (Nat.le_of_ble_eq_true rfl) (Nat.le_of_ble_eq_true rfl) W.1 k1 k2)
set_option maxRecDepth 20000 in
theorem mp_unB_1 (h : sm_H) (d : Nat) (zu zo : Int) : mi_path [(210, (5, 0, sb_210))] sx_sk h 25 [1, 0, 1, 1] (d + 6, 210, 24, [some (.inr (.inr 109)), some (.inl (zu)), some (.inl (zo)), none, none], [], [], []) = some ((d + 6, 210, 197, [some (.inr (.inr 109)), some (.inl (zu)), some (.inl (zo)), none, none], [.inr (.inl (mx_b h 134 (Int.toNat zu))), .inr (.inr 109)], [], []), [0 ≤ zu ∧ zu < 60, (mi_a h 122 (Int.toNat zu)) ≠ ((1 : Int)), 0 ≤ zu ∧ zu < 60, (mi_a h 122 (Int.toNat zu)) = ((2 : Int)), (mi_f h 14028) ≠ ((1 : Int)), (mi_f h 14028) ≠ ((2 : Int)), 0 ≤ zu ∧ zu < 60]) := rfl
theorem mi_tab_unB_1 : ∀ e ∈ ([(210, (5, 0, sb_210))] : mi_T), sc_P e.1 = some e.2 := mi_tb mi_P210 (mi_tb_e)
set_option maxRecDepth 20000 in
theorem ms_unB_1 {h : sm_H} {d : Nat} {Q : Option mi_V → sm_H → Prop} {zu zo : Int} (hS : ab_Sh sx_sk h) (ok_zu : mi_in zu) (ok_zo : mi_in zo) (ho : (0 ≤ zu ∧ zu < 60) ∧ ((mi_a h 122 (Int.toNat zu)) ≠ ((1 : Int))) ∧ (0 ≤ zu ∧ zu < 60) ∧ ((mi_a h 122 (Int.toNat zu)) = ((2 : Int))) ∧ ((mi_f h 14028) ≠ ((1 : Int))) ∧ ((mi_f h 14028) ≠ ((2 : Int))) ∧ (0 ≤ zu ∧ zu < 60)) (kon : ∀ h1, me_W [] h h1 → ∃ Q1, me_E (d + 5) 212 0 (mi_entry 3 [.inr (.inr 109), .inr (.inl (mx_b h 134 (Int.toNat zu)))]) [] h1 Q1 ∧ ∀ w h2, (∀ x, w = some x → mi_ok x) → Q1 w h2 → me_E (d + 6) 210 200 [some (.inr (.inr 109)), some (.inl (zu)), some (.inl (zo)), none, none] (mi_back w []) h2 Q) : me_E (d + 6) 210 24 [some (.inr (.inr 109)), some (.inl (zu)), some (.inl (zo)), none, none] [] h Q := me_seg (mp_unB_1 h d zu zo) (mi_tab_unB_1) hS (mi_okL_c (trivial) (mi_okL_c (ok_zu) (mi_okL_c (ok_zo) (mi_okL_n (mi_okL_n (mi_okL_e)))))) (mi_okS_e) (mi_al (ho.1) (mi_al (ho.2.1) (mi_al (ho.2.2.1) (mi_al (ho.2.2.2.1) (mi_al (ho.2.2.2.2.1) (mi_al (ho.2.2.2.2.2.1) (mi_al (ho.2.2.2.2.2.2) (mi_al_e)))))))) (fun h1 W _ hst => let ⟨_, k1, k2⟩ := kon h1 W; me_call (M := (5, 0, sb_210)) (M' := (3, 4, sb_212)) rfl rfl rfl rfl (Nat.le_of_ble_eq_true rfl) (Nat.le_of_ble_eq_true rfl) W.1 k1 k2)
set_option maxRecDepth 20000 in
theorem mp_unB_2 (h : sm_H) (d : Nat) (zu zo : Int) : mi_path [(210, (5, 0, sb_210))] sx_sk h 27 [1, 0, 1, 0] (d + 6, 210, 24, [some (.inr (.inr 109)), some (.inl (zu)), some (.inl (zo)), none, none], [], [], []) = some ((d + 6, 210, 208, [some (.inr (.inr 109)), some (.inl (zu)), some (.inl (zo)), none, none], [.inl ((mx_b h 162 (Int.toNat (mi_f h 14033))).toInt32.toInt)], [], []), [0 ≤ zu ∧ zu < 60, (mi_a h 122 (Int.toNat zu)) ≠ ((1 : Int)), 0 ≤ zu ∧ zu < 60, (mi_a h 122 (Int.toNat zu)) = ((2 : Int)), (mi_f h 14028) ≠ ((1 : Int)), (mi_f h 14028) = ((2 : Int)), 0 ≤ (mi_f h 14033) ∧ (mi_f h 14033) < 100]) := rfl
theorem mi_tab_unB_2 : ∀ e ∈ ([(210, (5, 0, sb_210))] : mi_T), sc_P e.1 = some e.2 := mi_tb mi_P210 (mi_tb_e)
set_option maxRecDepth 20000 in
theorem ms_unB_2 {h : sm_H} {d : Nat} {Q : Option mi_V → sm_H → Prop} {zu zo : Int} (hS : ab_Sh sx_sk h) (ok_zu : mi_in zu) (ok_zo : mi_in zo) (ho : (0 ≤ zu ∧ zu < 60) ∧ ((mi_a h 122 (Int.toNat zu)) ≠ ((1 : Int))) ∧ (0 ≤ zu ∧ zu < 60) ∧ ((mi_a h 122 (Int.toNat zu)) = ((2 : Int))) ∧ ((mi_f h 14028) ≠ ((1 : Int))) ∧ ((mi_f h 14028) = ((2 : Int))) ∧ (0 ≤ (mi_f h 14033) ∧ (mi_f h 14033) < 100)) (kon : ∀ h1, me_W [] h h1 → me_E (d + 6) 210 208 [some (.inr (.inr 109)), some (.inl (zu)), some (.inl (zo)), none, none] [.inl ((mx_b h 162 (Int.toNat (mi_f h 14033))).toInt32.toInt)] h1 Q) : me_E (d + 6) 210 24 [some (.inr (.inr 109)), some (.inl (zu)), some (.inl (zo)), none, none] [] h Q := me_seg (mp_unB_2 h d zu zo) (mi_tab_unB_2) hS (mi_okL_c (trivial) (mi_okL_c (ok_zu) (mi_okL_c (ok_zo) (mi_okL_n (mi_okL_n (mi_okL_e)))))) (mi_okS_e) (mi_al (ho.1) (mi_al (ho.2.1) (mi_al (ho.2.2.1) (mi_al (ho.2.2.2.1) (mi_al (ho.2.2.2.2.1) (mi_al (ho.2.2.2.2.2.1) (mi_al (ho.2.2.2.2.2.2) (mi_al_e)))))))) (fun h1 W _ hst => kon h1 W)
set_option maxRecDepth 20000 in
theorem mp_unB_3 (h : sm_H) (d : Nat) (zu zo : Int) : mi_path [(210, (5, 0, sb_210))] sx_sk h 21 [1, 0, 0, 1] (d + 6, 210, 24, [some (.inr (.inr 109)), some (.inl (zu)), some (.inl (zo)), none, none], [], [], []) = some ((d + 6, 210, 163, [some (.inr (.inr 109)), some (.inl (zu)), some (.inl (zo)), none, none], [.inl ((2 : Int)), .inr (.inr 109)], [], []), [0 ≤ zu ∧ zu < 60, (mi_a h 122 (Int.toNat zu)) ≠ ((1 : Int)), 0 ≤ zu ∧ zu < 60, (mi_a h 122 (Int.toNat zu)) = ((2 : Int)), (mi_f h 14028) = ((1 : Int)), ((0 : Int)) ≤ (mi_f h 14035)]) := rfl
theorem mi_tab_unB_3 : ∀ e ∈ ([(210, (5, 0, sb_210))] : mi_T), sc_P e.1 = some e.2 := mi_tb mi_P210 (mi_tb_e)
set_option maxRecDepth 20000 in
theorem ms_unB_3 {h : sm_H} {d : Nat} {Q : Option mi_V → sm_H → Prop} {zu zo : Int} (hS : ab_Sh sx_sk h) (ok_zu : mi_in zu) (ok_zo : mi_in zo) (ho : (0 ≤ zu ∧ zu < 60) ∧ ((mi_a h 122 (Int.toNat zu)) ≠ ((1 : Int))) ∧ (0 ≤ zu ∧ zu < 60) ∧ ((mi_a h 122 (Int.toNat zu)) = ((2 : Int))) ∧ ((mi_f h 14028) = ((1 : Int))) ∧ (((0 : Int)) ≤ (mi_f h 14035))) (kon : ∀ h1, me_W [] h h1 → ∃ Q1, me_E (d + 5) 211 0 (mi_entry 2 [.inr (.inr 109), .inl ((2 : Int))]) [] h1 Q1 ∧ ∀ w h2, (∀ x, w = some x → mi_ok x) → Q1 w h2 → me_E (d + 6) 210 166 [some (.inr (.inr 109)), some (.inl (zu)), some (.inl (zo)), none, none] (mi_back w []) h2 Q) : me_E (d + 6) 210 24 [some (.inr (.inr 109)), some (.inl (zu)), some (.inl (zo)), none, none] [] h Q := me_seg (mp_unB_3 h d zu zo) (mi_tab_unB_3) hS (mi_okL_c (trivial) (mi_okL_c (ok_zu) (mi_okL_c (ok_zo) (mi_okL_n (mi_okL_n (mi_okL_e)))))) (mi_okS_e) (mi_al (ho.1) (mi_al (ho.2.1) (mi_al (ho.2.2.1) (mi_al (ho.2.2.2.1) (mi_al (ho.2.2.2.2.1) (mi_al (ho.2.2.2.2.2) (mi_al_e))))))) (fun h1 W _ hst => let ⟨_, k1, k2⟩ := kon h1 W; me_call (M := (5, 0, sb_210)) (M' := (2, 1, sb_211)) rfl rfl rfl rfl (Nat.le_of_ble_eq_true rfl) (Nat.le_of_ble_eq_true rfl) W.1 k1 k2)
set_option maxRecDepth 20000 in
theorem mp_unB_4 (h : sm_H) (d : Nat) (zu zo : Int) : mi_path [(210, (5, 0, sb_210))] sx_sk h 21 [1, 0, 0, 0] (d + 6, 210, 24, [some (.inr (.inr 109)), some (.inl (zu)), some (.inl (zo)), none, none], [], [], []) = some ((d + 6, 210, 208, [some (.inr (.inr 109)), some (.inl (zu)), some (.inl (zo)), none, none], [.inl ((0 : Int))], [], []), [0 ≤ zu ∧ zu < 60, (mi_a h 122 (Int.toNat zu)) ≠ ((1 : Int)), 0 ≤ zu ∧ zu < 60, (mi_a h 122 (Int.toNat zu)) = ((2 : Int)), (mi_f h 14028) = ((1 : Int)), (mi_f h 14035) < ((0 : Int))]) := rfl
theorem mi_tab_unB_4 : ∀ e ∈ ([(210, (5, 0, sb_210))] : mi_T), sc_P e.1 = some e.2 := mi_tb mi_P210 (mi_tb_e)
set_option maxRecDepth 20000 in
theorem ms_unB_4 {h : sm_H} {d : Nat} {Q : Option mi_V → sm_H → Prop} {zu zo : Int} (hS : ab_Sh sx_sk h) (ok_zu : mi_in zu) (ok_zo : mi_in zo) (ho : (0 ≤ zu ∧ zu < 60) ∧ ((mi_a h 122 (Int.toNat zu)) ≠ ((1 : Int))) ∧ (0 ≤ zu ∧ zu < 60) ∧ ((mi_a h 122 (Int.toNat zu)) = ((2 : Int))) ∧ ((mi_f h 14028) = ((1 : Int))) ∧ ((mi_f h 14035) < ((0 : Int)))) (kon : ∀ h1, me_W [] h h1 → me_E (d + 6) 210 208 [some (.inr (.inr 109)), some (.inl (zu)), some (.inl (zo)), none, none] [.inl ((0 : Int))] h1 Q) : me_E (d + 6) 210 24 [some (.inr (.inr 109)), some (.inl (zu)), some (.inl (zo)), none, none] [] h Q := me_seg (mp_unB_4 h d zu zo) (mi_tab_unB_4) hS (mi_okL_c (trivial) (mi_okL_c (ok_zu) (mi_okL_c (ok_zo) (mi_okL_n (mi_okL_n (mi_okL_e)))))) (mi_okS_e) (mi_al (ho.1) (mi_al (ho.2.1) (mi_al (ho.2.2.1) (mi_al (ho.2.2.2.1) (mi_al (ho.2.2.2.2.1) (mi_al (ho.2.2.2.2.2) (mi_al_e))))))) (fun h1 W _ hst => kon h1 W)
set_option maxRecDepth 20000 in
theorem mp_unB_5 (h : sm_H) (d : Nat) (zu zo : Int) : mi_path [(210, (5, 0, sb_210))] sx_sk h 15 [0, 1, 1] (d + 6, 210, 24, [some (.inr (.inr 109)), some (.inl (zu)), some (.inl (zo)), none, none], [], [], []) = some ((d + 6, 210, 83, [some (.inr (.inr 109)), some (.inl (zu)), some (.inl (zo)), none, none], [.inl ((0 : Int))], [], []), [0 ≤ zu ∧ zu < 60, (mi_a h 122 (Int.toNat zu)) = ((1 : Int)), (mi_f h 14028) ≠ ((1 : Int)), (mi_f h 14028) ≠ ((2 : Int))]) := rfl
theorem mi_tab_unB_5 : ∀ e ∈ ([(210, (5, 0, sb_210))] : mi_T), sc_P e.1 = some e.2 := mi_tb mi_P210 (mi_tb_e)
set_option maxRecDepth 20000 in
theorem ms_unB_5 {h : sm_H} {d : Nat} {Q : Option mi_V → sm_H → Prop} {zu zo : Int} (hS : ab_Sh sx_sk h) (ok_zu : mi_in zu) (ok_zo : mi_in zo) (ho : (0 ≤ zu ∧ zu < 60) ∧ ((mi_a h 122 (Int.toNat zu)) = ((1 : Int))) ∧ ((mi_f h 14028) ≠ ((1 : Int))) ∧ ((mi_f h 14028) ≠ ((2 : Int)))) (kon : ∀ h1, me_W [] h h1 → me_E (d + 6) 210 83 [some (.inr (.inr 109)), some (.inl (zu)), some (.inl (zo)), none, none] [.inl ((0 : Int))] h1 Q) : me_E (d + 6) 210 24 [some (.inr (.inr 109)), some (.inl (zu)), some (.inl (zo)), none, none] [] h Q := me_seg (mp_unB_5 h d zu zo) (mi_tab_unB_5) hS (mi_okL_c (trivial) (mi_okL_c (ok_zu) (mi_okL_c (ok_zo) (mi_okL_n (mi_okL_n (mi_okL_e)))))) (mi_okS_e) (mi_al (ho.1) (mi_al (ho.2.1) (mi_al (ho.2.2.1) (mi_al (ho.2.2.2) (mi_al_e))))) (fun h1 W _ hst => kon h1 W)
set_option maxRecDepth 20000 in
theorem mp_unB_6 (h : sm_H) (d : Nat) (zu zo : Int) : mi_path [(210, (5, 0, sb_210))] sx_sk h 21 [0, 1, 0] (d + 6, 210, 24, [some (.inr (.inr 109)), some (.inl (zu)), some (.inl (zo)), none, none], [], [], []) = some ((d + 6, 210, 83, [some (.inr (.inr 109)), some (.inl (zu)), some (.inl (zo)), none, none], [.inl ((mx_b h 162 (Int.toNat (mi_f h 14033))).toInt32.toInt)], [], []), [0 ≤ zu ∧ zu < 60, (mi_a h 122 (Int.toNat zu)) = ((1 : Int)), (mi_f h 14028) ≠ ((1 : Int)), (mi_f h 14028) = ((2 : Int)), 0 ≤ (mi_f h 14033) ∧ (mi_f h 14033) < 100]) := rfl
theorem mi_tab_unB_6 : ∀ e ∈ ([(210, (5, 0, sb_210))] : mi_T), sc_P e.1 = some e.2 := mi_tb mi_P210 (mi_tb_e)
set_option maxRecDepth 20000 in
theorem ms_unB_6 {h : sm_H} {d : Nat} {Q : Option mi_V → sm_H → Prop} {zu zo : Int} (hS : ab_Sh sx_sk h) (ok_zu : mi_in zu) (ok_zo : mi_in zo) (ho : (0 ≤ zu ∧ zu < 60) ∧ ((mi_a h 122 (Int.toNat zu)) = ((1 : Int))) ∧ ((mi_f h 14028) ≠ ((1 : Int))) ∧ ((mi_f h 14028) = ((2 : Int))) ∧ (0 ≤ (mi_f h 14033) ∧ (mi_f h 14033) < 100)) (kon : ∀ h1, me_W [] h h1 → me_E (d + 6) 210 83 [some (.inr (.inr 109)), some (.inl (zu)), some (.inl (zo)), none, none] [.inl ((mx_b h 162 (Int.toNat (mi_f h 14033))).toInt32.toInt)] h1 Q) : me_E (d + 6) 210 24 [some (.inr (.inr 109)), some (.inl (zu)), some (.inl (zo)), none, none] [] h Q := me_seg (mp_unB_6 h d zu zo) (mi_tab_unB_6) hS (mi_okL_c (trivial) (mi_okL_c (ok_zu) (mi_okL_c (ok_zo) (mi_okL_n (mi_okL_n (mi_okL_e)))))) (mi_okS_e) (mi_al (ho.1) (mi_al (ho.2.1) (mi_al (ho.2.2.1) (mi_al (ho.2.2.2.1) (mi_al (ho.2.2.2.2) (mi_al_e)))))) (fun h1 W _ hst => kon h1 W)
set_option maxRecDepth 20000 in
theorem mp_unB_7 (h : sm_H) (d : Nat) (zu zo : Int) : mi_path [(210, (5, 0, sb_210))] sx_sk h 15 [0, 0, 1] (d + 6, 210, 24, [some (.inr (.inr 109)), some (.inl (zu)), some (.inl (zo)), none, none], [], [], []) = some ((d + 6, 210, 55, [some (.inr (.inr 109)), some (.inl (zu)), some (.inl (zo)), none, none], [.inl ((3 : Int)), .inr (.inr 109)], [], []), [0 ≤ zu ∧ zu < 60, (mi_a h 122 (Int.toNat zu)) = ((1 : Int)), (mi_f h 14028) = ((1 : Int)), ((0 : Int)) ≤ (mi_f h 14035)]) := rfl
theorem mi_tab_unB_7 : ∀ e ∈ ([(210, (5, 0, sb_210))] : mi_T), sc_P e.1 = some e.2 := mi_tb mi_P210 (mi_tb_e)
set_option maxRecDepth 20000 in
theorem ms_unB_7 {h : sm_H} {d : Nat} {Q : Option mi_V → sm_H → Prop} {zu zo : Int} (hS : ab_Sh sx_sk h) (ok_zu : mi_in zu) (ok_zo : mi_in zo) (ho : (0 ≤ zu ∧ zu < 60) ∧ ((mi_a h 122 (Int.toNat zu)) = ((1 : Int))) ∧ ((mi_f h 14028) = ((1 : Int))) ∧ (((0 : Int)) ≤ (mi_f h 14035))) (kon : ∀ h1, me_W [] h h1 → ∃ Q1, me_E (d + 5) 211 0 (mi_entry 2 [.inr (.inr 109), .inl ((3 : Int))]) [] h1 Q1 ∧ ∀ w h2, (∀ x, w = some x → mi_ok x) → Q1 w h2 → me_E (d + 6) 210 58 [some (.inr (.inr 109)), some (.inl (zu)), some (.inl (zo)), none, none] (mi_back w []) h2 Q) : me_E (d + 6) 210 24 [some (.inr (.inr 109)), some (.inl (zu)), some (.inl (zo)), none, none] [] h Q := me_seg (mp_unB_7 h d zu zo) (mi_tab_unB_7) hS (mi_okL_c (trivial) (mi_okL_c (ok_zu) (mi_okL_c (ok_zo) (mi_okL_n (mi_okL_n (mi_okL_e)))))) (mi_okS_e) (mi_al (ho.1) (mi_al (ho.2.1) (mi_al (ho.2.2.1) (mi_al (ho.2.2.2) (mi_al_e))))) (fun h1 W _ hst => let ⟨_, k1, k2⟩ := kon h1 W; me_call (M := (5, 0, sb_210)) (M' := (2, 1, sb_211)) rfl rfl rfl rfl (Nat.le_of_ble_eq_true rfl) (Nat.le_of_ble_eq_true rfl) W.1 k1 k2)
set_option maxRecDepth 20000 in
theorem mp_unB_8 (h : sm_H) (d : Nat) (zu zo : Int) : mi_path [(210, (5, 0, sb_210))] sx_sk h 15 [0, 0, 0] (d + 6, 210, 24, [some (.inr (.inr 109)), some (.inl (zu)), some (.inl (zo)), none, none], [], [], []) = some ((d + 6, 210, 83, [some (.inr (.inr 109)), some (.inl (zu)), some (.inl (zo)), none, none], [.inl ((0 : Int))], [], []), [0 ≤ zu ∧ zu < 60, (mi_a h 122 (Int.toNat zu)) = ((1 : Int)), (mi_f h 14028) = ((1 : Int)), (mi_f h 14035) < ((0 : Int))]) := rfl
theorem mi_tab_unB_8 : ∀ e ∈ ([(210, (5, 0, sb_210))] : mi_T), sc_P e.1 = some e.2 := mi_tb mi_P210 (mi_tb_e)
set_option maxRecDepth 20000 in
theorem ms_unB_8 {h : sm_H} {d : Nat} {Q : Option mi_V → sm_H → Prop} {zu zo : Int} (hS : ab_Sh sx_sk h) (ok_zu : mi_in zu) (ok_zo : mi_in zo) (ho : (0 ≤ zu ∧ zu < 60) ∧ ((mi_a h 122 (Int.toNat zu)) = ((1 : Int))) ∧ ((mi_f h 14028) = ((1 : Int))) ∧ ((mi_f h 14035) < ((0 : Int)))) (kon : ∀ h1, me_W [] h h1 → me_E (d + 6) 210 83 [some (.inr (.inr 109)), some (.inl (zu)), some (.inl (zo)), none, none] [.inl ((0 : Int))] h1 Q) : me_E (d + 6) 210 24 [some (.inr (.inr 109)), some (.inl (zu)), some (.inl (zo)), none, none] [] h Q := me_seg (mp_unB_8 h d zu zo) (mi_tab_unB_8) hS (mi_okL_c (trivial) (mi_okL_c (ok_zu) (mi_okL_c (ok_zo) (mi_okL_n (mi_okL_n (mi_okL_e)))))) (mi_okS_e) (mi_al (ho.1) (mi_al (ho.2.1) (mi_al (ho.2.2.1) (mi_al (ho.2.2.2) (mi_al_e))))) (fun h1 W _ hst => kon h1 W)
set_option maxRecDepth 20000 in
theorem mt_unB {h : sm_H} {d : Nat} {Q : Option mi_V → sm_H → Prop} {zu zo : Int} (hS : ab_Sh sx_sk h) (ok_zu : mi_in zu) (ok_zo : mi_in zo) (k0 : ((mi_a h 122 (Int.toNat zu)) ≠ ((1 : Int))) → ((mi_a h 122 (Int.toNat zu)) ≠ ((2 : Int))) → ((0 ≤ zu ∧ zu < 60)) ∧ (∀ h1, ab_Sh sx_sk h1 → ab_Fr [] h h1 → ∃ Q1, me_E (d + 5) 213 0 (mi_entry 2 [.inr (.inr 109), .inl (zu)]) [] h1 Q1 ∧ ∀ w h2, (∀ x, w = some x → mi_ok x) → Q1 w h2 → me_E (d + 6) 210 259 [some (.inr (.inr 109)), some (.inl (zu)), some (.inl (zo)), none, none] (mi_back w []) h2 Q)) (k1 : ((-2147483648) ≤ mi_f h 14028 ∧ mi_f h 14028 ≤ 2147483647) → ((mi_a h 122 (Int.toNat zu)) ≠ ((1 : Int))) → ((mi_a h 122 (Int.toNat zu)) = ((2 : Int))) → ((mi_f h 14028) ≠ ((1 : Int))) → ((mi_f h 14028) ≠ ((2 : Int))) → ((0 ≤ zu ∧ zu < 60)) ∧ (∀ h1, ab_Sh sx_sk h1 → ab_Fr [] h h1 → ∃ Q1, me_E (d + 5) 212 0 (mi_entry 3 [.inr (.inr 109), .inr (.inl (mx_b h 134 (Int.toNat zu)))]) [] h1 Q1 ∧ ∀ w h2, (∀ x, w = some x → mi_ok x) → Q1 w h2 → me_E (d + 6) 210 200 [some (.inr (.inr 109)), some (.inl (zu)), some (.inl (zo)), none, none] (mi_back w []) h2 Q)) (k2 : ((-2147483648) ≤ mi_f h 14028 ∧ mi_f h 14028 ≤ 2147483647) → ((-2147483648) ≤ mi_f h 14033 ∧ mi_f h 14033 ≤ 2147483647) → ((mi_a h 122 (Int.toNat zu)) ≠ ((1 : Int))) → ((mi_a h 122 (Int.toNat zu)) = ((2 : Int))) → ((mi_f h 14028) ≠ ((1 : Int))) → ((mi_f h 14028) = ((2 : Int))) → ((0 ≤ zu ∧ zu < 60) ∧ (0 ≤ (mi_f h 14033) ∧ (mi_f h 14033) < 100)) ∧ (∀ h1, ab_Sh sx_sk h1 → ab_Fr [] h h1 → me_E (d + 6) 210 208 [some (.inr (.inr 109)), some (.inl (zu)), some (.inl (zo)), none, none] [.inl ((mx_b h 162 (Int.toNat (mi_f h 14033))).toInt32.toInt)] h1 Q)) (k3 : ((-2147483648) ≤ mi_f h 14028 ∧ mi_f h 14028 ≤ 2147483647) → ((-2147483648) ≤ mi_f h 14035 ∧ mi_f h 14035 ≤ 2147483647) → ((mi_a h 122 (Int.toNat zu)) ≠ ((1 : Int))) → ((mi_a h 122 (Int.toNat zu)) = ((2 : Int))) → ((mi_f h 14028) = ((1 : Int))) → (((0 : Int)) ≤ (mi_f h 14035)) → ((0 ≤ zu ∧ zu < 60)) ∧ (∀ h1, ab_Sh sx_sk h1 → ab_Fr [] h h1 → ∃ Q1, me_E (d + 5) 211 0 (mi_entry 2 [.inr (.inr 109), .inl ((2 : Int))]) [] h1 Q1 ∧ ∀ w h2, (∀ x, w = some x → mi_ok x) → Q1 w h2 → me_E (d + 6) 210 166 [some (.inr (.inr 109)), some (.inl (zu)), some (.inl (zo)), none, none] (mi_back w []) h2 Q)) (k4 : ((-2147483648) ≤ mi_f h 14028 ∧ mi_f h 14028 ≤ 2147483647) → ((-2147483648) ≤ mi_f h 14035 ∧ mi_f h 14035 ≤ 2147483647) → ((mi_a h 122 (Int.toNat zu)) ≠ ((1 : Int))) → ((mi_a h 122 (Int.toNat zu)) = ((2 : Int))) → ((mi_f h 14028) = ((1 : Int))) → ((mi_f h 14035) < ((0 : Int))) → ((0 ≤ zu ∧ zu < 60)) ∧ (∀ h1, ab_Sh sx_sk h1 → ab_Fr [] h h1 → me_E (d + 6) 210 208 [some (.inr (.inr 109)), some (.inl (zu)), some (.inl (zo)), none, none] [.inl ((0 : Int))] h1 Q)) (k5 : ((-2147483648) ≤ mi_f h 14028 ∧ mi_f h 14028 ≤ 2147483647) → ((mi_a h 122 (Int.toNat zu)) = ((1 : Int))) → ((mi_f h 14028) ≠ ((1 : Int))) → ((mi_f h 14028) ≠ ((2 : Int))) → ((0 ≤ zu ∧ zu < 60)) ∧ (∀ h1, ab_Sh sx_sk h1 → ab_Fr [] h h1 → me_E (d + 6) 210 83 [some (.inr (.inr 109)), some (.inl (zu)), some (.inl (zo)), none, none] [.inl ((0 : Int))] h1 Q)) (k6 : ((-2147483648) ≤ mi_f h 14028 ∧ mi_f h 14028 ≤ 2147483647) → ((-2147483648) ≤ mi_f h 14033 ∧ mi_f h 14033 ≤ 2147483647) → ((mi_a h 122 (Int.toNat zu)) = ((1 : Int))) → ((mi_f h 14028) ≠ ((1 : Int))) → ((mi_f h 14028) = ((2 : Int))) → ((0 ≤ zu ∧ zu < 60) ∧ (0 ≤ (mi_f h 14033) ∧ (mi_f h 14033) < 100)) ∧ (∀ h1, ab_Sh sx_sk h1 → ab_Fr [] h h1 → me_E (d + 6) 210 83 [some (.inr (.inr 109)), some (.inl (zu)), some (.inl (zo)), none, none] [.inl ((mx_b h 162 (Int.toNat (mi_f h 14033))).toInt32.toInt)] h1 Q)) (k7 : ((-2147483648) ≤ mi_f h 14028 ∧ mi_f h 14028 ≤ 2147483647) → ((-2147483648) ≤ mi_f h 14035 ∧ mi_f h 14035 ≤ 2147483647) → ((mi_a h 122 (Int.toNat zu)) = ((1 : Int))) → ((mi_f h 14028) = ((1 : Int))) → (((0 : Int)) ≤ (mi_f h 14035)) → ((0 ≤ zu ∧ zu < 60)) ∧ (∀ h1, ab_Sh sx_sk h1 → ab_Fr [] h h1 → ∃ Q1, me_E (d + 5) 211 0 (mi_entry 2 [.inr (.inr 109), .inl ((3 : Int))]) [] h1 Q1 ∧ ∀ w h2, (∀ x, w = some x → mi_ok x) → Q1 w h2 → me_E (d + 6) 210 58 [some (.inr (.inr 109)), some (.inl (zu)), some (.inl (zo)), none, none] (mi_back w []) h2 Q)) (k8 : ((-2147483648) ≤ mi_f h 14028 ∧ mi_f h 14028 ≤ 2147483647) → ((-2147483648) ≤ mi_f h 14035 ∧ mi_f h 14035 ≤ 2147483647) → ((mi_a h 122 (Int.toNat zu)) = ((1 : Int))) → ((mi_f h 14028) = ((1 : Int))) → ((mi_f h 14035) < ((0 : Int))) → ((0 ≤ zu ∧ zu < 60)) ∧ (∀ h1, ab_Sh sx_sk h1 → ab_Fr [] h h1 → me_E (d + 6) 210 83 [some (.inr (.inr 109)), some (.inl (zu)), some (.inl (zo)), none, none] [.inl ((0 : Int))] h1 Q)) : me_E (d + 6) 210 24 [some (.inr (.inr 109)), some (.inl (zu)), some (.inl (zo)), none, none] [] h Q := Or.elim (mi_em .ne ((mi_a h 122 (Int.toNat zu))) (((1 : Int)))) (fun c0 => Or.elim (mi_em .ne ((mi_a h 122 (Int.toNat zu))) (((2 : Int)))) (fun c1 => ms_unB_0 hS ok_zu ok_zo ⟨(k0 c0 c1).1, c0, (k0 c0 c1).1, c1⟩ (fun h1 W => (k0 c0 c1).2 h1 W.1 (W.2.2.2.2.2 _ rfl))) (fun c1 => Or.elim (mi_em .ne ((mi_f h 14028)) (((1 : Int)))) (fun c2 => Or.elim (mi_em .ne ((mi_f h 14028)) (((2 : Int)))) (fun c3 => ms_unB_1 hS ok_zu ok_zo ⟨(k1 (me_fb hS rfl) c0 c1 c2 c3).1, c0, (k1 (me_fb hS rfl) c0 c1 c2 c3).1, c1, c2, c3, (k1 (me_fb hS rfl) c0 c1 c2 c3).1⟩ (fun h1 W => (k1 (me_fb hS rfl) c0 c1 c2 c3).2 h1 W.1 (W.2.2.2.2.2 _ rfl))) (fun c3 => ms_unB_2 hS ok_zu ok_zo ⟨(k2 (me_fb hS rfl) (me_fb hS rfl) c0 c1 c2 c3).1.1, c0, (k2 (me_fb hS rfl) (me_fb hS rfl) c0 c1 c2 c3).1.1, c1, c2, c3, (k2 (me_fb hS rfl) (me_fb hS rfl) c0 c1 c2 c3).1.2⟩ (fun h1 W => (k2 (me_fb hS rfl) (me_fb hS rfl) c0 c1 c2 c3).2 h1 W.1 (W.2.2.2.2.2 _ rfl)))) (fun c2 => Or.elim (mi_em .ge ((mi_f h 14035)) (((0 : Int)))) (fun c3 => ms_unB_3 hS ok_zu ok_zo ⟨(k3 (me_fb hS rfl) (me_fb hS rfl) c0 c1 c2 c3).1, c0, (k3 (me_fb hS rfl) (me_fb hS rfl) c0 c1 c2 c3).1, c1, c2, c3⟩ (fun h1 W => (k3 (me_fb hS rfl) (me_fb hS rfl) c0 c1 c2 c3).2 h1 W.1 (W.2.2.2.2.2 _ rfl))) (fun c3 => ms_unB_4 hS ok_zu ok_zo ⟨(k4 (me_fb hS rfl) (me_fb hS rfl) c0 c1 c2 c3).1, c0, (k4 (me_fb hS rfl) (me_fb hS rfl) c0 c1 c2 c3).1, c1, c2, c3⟩ (fun h1 W => (k4 (me_fb hS rfl) (me_fb hS rfl) c0 c1 c2 c3).2 h1 W.1 (W.2.2.2.2.2 _ rfl)))))) (fun c0 => Or.elim (mi_em .ne ((mi_f h 14028)) (((1 : Int)))) (fun c1 => Or.elim (mi_em .ne ((mi_f h 14028)) (((2 : Int)))) (fun c2 => ms_unB_5 hS ok_zu ok_zo ⟨(k5 (me_fb hS rfl) c0 c1 c2).1, c0, c1, c2⟩ (fun h1 W => (k5 (me_fb hS rfl) c0 c1 c2).2 h1 W.1 (W.2.2.2.2.2 _ rfl))) (fun c2 => ms_unB_6 hS ok_zu ok_zo ⟨(k6 (me_fb hS rfl) (me_fb hS rfl) c0 c1 c2).1.1, c0, c1, c2, (k6 (me_fb hS rfl) (me_fb hS rfl) c0 c1 c2).1.2⟩ (fun h1 W => (k6 (me_fb hS rfl) (me_fb hS rfl) c0 c1 c2).2 h1 W.1 (W.2.2.2.2.2 _ rfl)))) (fun c1 => Or.elim (mi_em .ge ((mi_f h 14035)) (((0 : Int)))) (fun c2 => ms_unB_7 hS ok_zu ok_zo ⟨(k7 (me_fb hS rfl) (me_fb hS rfl) c0 c1 c2).1, c0, c1, c2⟩ (fun h1 W => (k7 (me_fb hS rfl) (me_fb hS rfl) c0 c1 c2).2 h1 W.1 (W.2.2.2.2.2 _ rfl))) (fun c2 => ms_unB_8 hS ok_zu ok_zo ⟨(k8 (me_fb hS rfl) (me_fb hS rfl) c0 c1 c2).1, c0, c1, c2⟩ (fun h1 W => (k8 (me_fb hS rfl) (me_fb hS rfl) c0 c1 c2).2 h1 W.1 (W.2.2.2.2.2 _ rfl)))))
set_option maxRecDepth 20000 in
theorem mp_unC_0 (h : sm_H) (d : Nat) (zu zo zz : Int) : mi_path [(210, (5, 0, sb_210))] sx_sk h 1 [] (d + 6, 210, 58, [some (.inr (.inr 109)), some (.inl (zu)), some (.inl (zo)), none, none], [.inl (zz)], [], []) = some ((d + 6, 210, 83, [some (.inr (.inr 109)), some (.inl (zu)), some (.inl (zo)), none, none], [.inl (zz)], [], []), []) := rfl
theorem mi_tab_unC_0 : ∀ e ∈ ([(210, (5, 0, sb_210))] : mi_T), sc_P e.1 = some e.2 := mi_tb mi_P210 (mi_tb_e)
set_option maxRecDepth 20000 in
theorem ms_unC_0 {h : sm_H} {d : Nat} {Q : Option mi_V → sm_H → Prop} {zu zo zz : Int} (hS : ab_Sh sx_sk h) (ok_zu : mi_in zu) (ok_zo : mi_in zo) (ok_zz : mi_in zz) (kon : ∀ h1, me_W [] h h1 → me_E (d + 6) 210 83 [some (.inr (.inr 109)), some (.inl (zu)), some (.inl (zo)), none, none] [.inl (zz)] h1 Q) : me_E (d + 6) 210 58 [some (.inr (.inr 109)), some (.inl (zu)), some (.inl (zo)), none, none] [.inl (zz)] h Q := me_seg (mp_unC_0 h d zu zo zz) (mi_tab_unC_0) hS (mi_okL_c (trivial) (mi_okL_c (ok_zu) (mi_okL_c (ok_zo) (mi_okL_n (mi_okL_n (mi_okL_e)))))) (mi_okS_cons (ok_zz) (mi_okS_e)) (mi_al_e) (fun h1 W _ hst => kon h1 W)
set_option maxRecDepth 20000 in
theorem mt_unC {h : sm_H} {d : Nat} {Q : Option mi_V → sm_H → Prop} {zu zo zz : Int} (hS : ab_Sh sx_sk h) (ok_zu : mi_in zu) (ok_zo : mi_in zo) (ok_zz : mi_in zz) (k0 : (∀ h1, ab_Sh sx_sk h1 → ab_Fr [] h h1 → me_E (d + 6) 210 83 [some (.inr (.inr 109)), some (.inl (zu)), some (.inl (zo)), none, none] [.inl (zz)] h1 Q)) : me_E (d + 6) 210 58 [some (.inr (.inr 109)), some (.inl (zu)), some (.inl (zo)), none, none] [.inl (zz)] h Q := ms_unC_0 hS ok_zu ok_zo ok_zz (fun h1 W => (k0) h1 W.1 (W.2.2.2.2.2 _ rfl))
set_option maxRecDepth 20000 in
theorem mp_unD_0 (h : sm_H) (d : Nat) (zu zo zn : Int) : mi_path [(210, (5, 0, sb_210))] sx_sk h 5 [] (d + 6, 210, 83, [some (.inr (.inr 109)), some (.inl (zu)), some (.inl (zo)), none, none], [.inl (zn)], [], []) = some ((d + 6, 210, 88, [some (.inr (.inr 109)), some (.inl (zu)), some (.inl (zo)), some (.inl (zn)), none], [.inr (.inl ((Int32.ofInt zn).toInt64)), .inl ((5 : Int)), .inr (.inr 109)], [], []), []) := rfl
theorem mi_tab_unD_0 : ∀ e ∈ ([(210, (5, 0, sb_210))] : mi_T), sc_P e.1 = some e.2 := mi_tb mi_P210 (mi_tb_e)
set_option maxRecDepth 20000 in
theorem ms_unD_0 {h : sm_H} {d : Nat} {Q : Option mi_V → sm_H → Prop} {zu zo zn : Int} (hS : ab_Sh sx_sk h) (ok_zu : mi_in zu) (ok_zo : mi_in zo) (ok_zn : mi_in zn) (kon : ∀ h1, me_W [] h h1 → ∃ Q1, me_E (d + 5) 208 0 (mi_entry 4 [.inr (.inr 109), .inl ((5 : Int)), .inr (.inl ((Int32.ofInt zn).toInt64))]) [] h1 Q1 ∧ ∀ w h2, (∀ x, w = some x → mi_ok x) → Q1 w h2 → me_E (d + 6) 210 91 [some (.inr (.inr 109)), some (.inl (zu)), some (.inl (zo)), some (.inl (zn)), none] (mi_back w []) h2 Q) : me_E (d + 6) 210 83 [some (.inr (.inr 109)), some (.inl (zu)), some (.inl (zo)), none, none] [.inl (zn)] h Q := me_seg (mp_unD_0 h d zu zo zn) (mi_tab_unD_0) hS (mi_okL_c (trivial) (mi_okL_c (ok_zu) (mi_okL_c (ok_zo) (mi_okL_n (mi_okL_n (mi_okL_e)))))) (mi_okS_cons (ok_zn) (mi_okS_e)) (mi_al_e) (fun h1 W _ hst => let ⟨_, k1, k2⟩ := kon h1 W; me_call (M := (5, 0, sb_210)) (M' := (4, 1, sb_208)) rfl rfl rfl rfl (Nat.le_of_ble_eq_true rfl) (Nat.le_of_ble_eq_true rfl) W.1 k1 k2)
set_option maxRecDepth 20000 in
theorem mt_unD {h : sm_H} {d : Nat} {Q : Option mi_V → sm_H → Prop} {zu zo zn : Int} (hS : ab_Sh sx_sk h) (ok_zu : mi_in zu) (ok_zo : mi_in zo) (ok_zn : mi_in zn) (k0 : (∀ h1, ab_Sh sx_sk h1 → ab_Fr [] h h1 → ∃ Q1, me_E (d + 5) 208 0 (mi_entry 4 [.inr (.inr 109), .inl ((5 : Int)), .inr (.inl ((Int32.ofInt zn).toInt64))]) [] h1 Q1 ∧ ∀ w h2, (∀ x, w = some x → mi_ok x) → Q1 w h2 → me_E (d + 6) 210 91 [some (.inr (.inr 109)), some (.inl (zu)), some (.inl (zo)), some (.inl (zn)), none] (mi_back w []) h2 Q)) : me_E (d + 6) 210 83 [some (.inr (.inr 109)), some (.inl (zu)), some (.inl (zo)), none, none] [.inl (zn)] h Q := ms_unD_0 hS ok_zu ok_zo ok_zn (fun h1 W => (k0) h1 W.1 (W.2.2.2.2.2 _ rfl))
set_option maxRecDepth 20000 in
theorem mp_unE_0 (h : sm_H) (d : Nat) (zu zo zn zt : Int) : mi_path [(210, (5, 0, sb_210)), (209, (4, 0, sb_209))] sx_sk h 69 [9, 8, 1, 8] (d + 6, 210, 91, [some (.inr (.inr 109)), some (.inl (zu)), some (.inl (zo)), some (.inl (zn)), none], [.inl (zt)], [], []) = some ((d + 6, 210, 259, [some (.inr (.inr 109)), some (.inl (zu)), some (.inl (zo)), some (.inl (zn)), some (.inl (zt))], [], [.inr (.inr (.inl (167, Int.toNat ((mi_f h 14029) + ((1 : Int))), zn))), .inl (14029, ((mi_f h 14029) + ((1 : Int))) + ((1 : Int))), .inr (.inr (.inl (166, Int.toNat ((mi_f h 14029) + ((1 : Int))), zu))), .inr (.inr (.inl (165, Int.toNat ((mi_f h 14029) + ((1 : Int))), (5 : Int)))), .inr (.inr (.inl (167, Int.toNat (mi_f h 14029), (0 : Int)))), .inl (14029, (mi_f h 14029) + ((1 : Int))), .inr (.inr (.inl (166, Int.toNat (mi_f h 14029), (0 : Int)))), .inr (.inr (.inl (165, Int.toNat (mi_f h 14029), (2 : Int)))), .inl (14031, (Int32.ofInt (mi_f h 14031) + Int32.ofInt ((1 : Int))).toInt)], []), [0 ≤ (mi_f h 14029) ∧ (mi_f h 14029) < 3000, 0 ≤ (mi_f h 14029) ∧ (mi_f h 14029) < 3000, -2147483648 ≤ (mi_f h 14029) + ((1 : Int)) ∧ (mi_f h 14029) + ((1 : Int)) ≤ 2147483647, 0 ≤ (mi_f h 14029) ∧ (mi_f h 14029) < 3000, (mi_f h 14028) ≠ ((0 : Int)), 0 ≤ ((mi_f h 14029) + ((1 : Int))) ∧ ((mi_f h 14029) + ((1 : Int))) < 3000, 0 ≤ ((mi_f h 14029) + ((1 : Int))) ∧ ((mi_f h 14029) + ((1 : Int))) < 3000, -2147483648 ≤ ((mi_f h 14029) + ((1 : Int))) + ((1 : Int)) ∧ ((mi_f h 14029) + ((1 : Int))) + ((1 : Int)) ≤ 2147483647, 0 ≤ ((mi_f h 14029) + ((1 : Int))) ∧ ((mi_f h 14029) + ((1 : Int))) < 3000]) := rfl
theorem mi_tab_unE_0 : ∀ e ∈ ([(210, (5, 0, sb_210)), (209, (4, 0, sb_209))] : mi_T), sc_P e.1 = some e.2 := mi_tb mi_P210 (mi_tb mi_P209 (mi_tb_e))
set_option maxRecDepth 20000 in
theorem ms_unE_0 {h : sm_H} {d : Nat} {Q : Option mi_V → sm_H → Prop} {zu zo zn zt : Int} (hS : ab_Sh sx_sk h) (ok_zu : mi_in zu) (ok_zo : mi_in zo) (ok_zn : mi_in zn) (ok_zt : mi_in zt) (ho : (0 ≤ (mi_f h 14029) ∧ (mi_f h 14029) < 3000) ∧ (0 ≤ (mi_f h 14029) ∧ (mi_f h 14029) < 3000) ∧ (-2147483648 ≤ (mi_f h 14029) + ((1 : Int)) ∧ (mi_f h 14029) + ((1 : Int)) ≤ 2147483647) ∧ (0 ≤ (mi_f h 14029) ∧ (mi_f h 14029) < 3000) ∧ ((mi_f h 14028) ≠ ((0 : Int))) ∧ (0 ≤ ((mi_f h 14029) + ((1 : Int))) ∧ ((mi_f h 14029) + ((1 : Int))) < 3000) ∧ (0 ≤ ((mi_f h 14029) + ((1 : Int))) ∧ ((mi_f h 14029) + ((1 : Int))) < 3000) ∧ (-2147483648 ≤ ((mi_f h 14029) + ((1 : Int))) + ((1 : Int)) ∧ ((mi_f h 14029) + ((1 : Int))) + ((1 : Int)) ≤ 2147483647) ∧ (0 ≤ ((mi_f h 14029) + ((1 : Int))) ∧ ((mi_f h 14029) + ((1 : Int))) < 3000)) (kon : ∀ h1, me_W [.inr (.inr (.inl (167, Int.toNat ((mi_f h 14029) + ((1 : Int))), zn))), .inl (14029, ((mi_f h 14029) + ((1 : Int))) + ((1 : Int))), .inr (.inr (.inl (166, Int.toNat ((mi_f h 14029) + ((1 : Int))), zu))), .inr (.inr (.inl (165, Int.toNat ((mi_f h 14029) + ((1 : Int))), (5 : Int)))), .inr (.inr (.inl (167, Int.toNat (mi_f h 14029), (0 : Int)))), .inl (14029, (mi_f h 14029) + ((1 : Int))), .inr (.inr (.inl (166, Int.toNat (mi_f h 14029), (0 : Int)))), .inr (.inr (.inl (165, Int.toNat (mi_f h 14029), (2 : Int)))), .inl (14031, (Int32.ofInt (mi_f h 14031) + Int32.ofInt ((1 : Int))).toInt)] h h1 → Q none h1) : me_E (d + 6) 210 91 [some (.inr (.inr 109)), some (.inl (zu)), some (.inl (zo)), some (.inl (zn)), none] [.inl (zt)] h Q := me_seg (mp_unE_0 h d zu zo zn zt) (mi_tab_unE_0) hS (mi_okL_c (trivial) (mi_okL_c (ok_zu) (mi_okL_c (ok_zo) (mi_okL_c (ok_zn) (mi_okL_n (mi_okL_e)))))) (mi_okS_cons (ok_zt) (mi_okS_e)) (mi_al (ho.1) (mi_al (ho.2.1) (mi_al (ho.2.2.1) (mi_al (ho.2.2.2.1) (mi_al (ho.2.2.2.2.1) (mi_al (ho.2.2.2.2.2.1) (mi_al (ho.2.2.2.2.2.2.1) (mi_al (ho.2.2.2.2.2.2.2.1) (mi_al (ho.2.2.2.2.2.2.2.2) (mi_al_e)))))))))) (fun h1 W _ hst => me_ret (M := (5, 0, sb_210)) rfl rfl rfl hst (mi_al_e) (kon h1 W))
set_option maxRecDepth 20000 in
theorem mp_unE_1 (h : sm_H) (d : Nat) (zu zo zn zt : Int) : mi_path [(210, (5, 0, sb_210)), (209, (4, 0, sb_209))] sx_sk h 70 [9, 8, 0, 8] (d + 6, 210, 91, [some (.inr (.inr 109)), some (.inl (zu)), some (.inl (zo)), some (.inl (zn)), none], [.inl (zt)], [], []) = some ((d + 6, 210, 259, [some (.inr (.inr 109)), some (.inl (zu)), some (.inl (zo)), some (.inl (zn)), some (.inl (zt))], [], [.inr (.inr (.inl (167, Int.toNat ((mi_f h 14029) + ((1 : Int))), zt))), .inl (14029, ((mi_f h 14029) + ((1 : Int))) + ((1 : Int))), .inr (.inr (.inl (166, Int.toNat ((mi_f h 14029) + ((1 : Int))), zu))), .inr (.inr (.inl (165, Int.toNat ((mi_f h 14029) + ((1 : Int))), (5 : Int)))), .inr (.inr (.inl (167, Int.toNat (mi_f h 14029), (0 : Int)))), .inl (14029, (mi_f h 14029) + ((1 : Int))), .inr (.inr (.inl (166, Int.toNat (mi_f h 14029), (0 : Int)))), .inr (.inr (.inl (165, Int.toNat (mi_f h 14029), (2 : Int)))), .inl (14031, (Int32.ofInt (mi_f h 14031) + Int32.ofInt ((1 : Int))).toInt)], []), [0 ≤ (mi_f h 14029) ∧ (mi_f h 14029) < 3000, 0 ≤ (mi_f h 14029) ∧ (mi_f h 14029) < 3000, -2147483648 ≤ (mi_f h 14029) + ((1 : Int)) ∧ (mi_f h 14029) + ((1 : Int)) ≤ 2147483647, 0 ≤ (mi_f h 14029) ∧ (mi_f h 14029) < 3000, (mi_f h 14028) = ((0 : Int)), 0 ≤ ((mi_f h 14029) + ((1 : Int))) ∧ ((mi_f h 14029) + ((1 : Int))) < 3000, 0 ≤ ((mi_f h 14029) + ((1 : Int))) ∧ ((mi_f h 14029) + ((1 : Int))) < 3000, -2147483648 ≤ ((mi_f h 14029) + ((1 : Int))) + ((1 : Int)) ∧ ((mi_f h 14029) + ((1 : Int))) + ((1 : Int)) ≤ 2147483647, 0 ≤ ((mi_f h 14029) + ((1 : Int))) ∧ ((mi_f h 14029) + ((1 : Int))) < 3000]) := rfl
theorem mi_tab_unE_1 : ∀ e ∈ ([(210, (5, 0, sb_210)), (209, (4, 0, sb_209))] : mi_T), sc_P e.1 = some e.2 := mi_tb mi_P210 (mi_tb mi_P209 (mi_tb_e))
set_option maxRecDepth 20000 in
theorem ms_unE_1 {h : sm_H} {d : Nat} {Q : Option mi_V → sm_H → Prop} {zu zo zn zt : Int} (hS : ab_Sh sx_sk h) (ok_zu : mi_in zu) (ok_zo : mi_in zo) (ok_zn : mi_in zn) (ok_zt : mi_in zt) (ho : (0 ≤ (mi_f h 14029) ∧ (mi_f h 14029) < 3000) ∧ (0 ≤ (mi_f h 14029) ∧ (mi_f h 14029) < 3000) ∧ (-2147483648 ≤ (mi_f h 14029) + ((1 : Int)) ∧ (mi_f h 14029) + ((1 : Int)) ≤ 2147483647) ∧ (0 ≤ (mi_f h 14029) ∧ (mi_f h 14029) < 3000) ∧ ((mi_f h 14028) = ((0 : Int))) ∧ (0 ≤ ((mi_f h 14029) + ((1 : Int))) ∧ ((mi_f h 14029) + ((1 : Int))) < 3000) ∧ (0 ≤ ((mi_f h 14029) + ((1 : Int))) ∧ ((mi_f h 14029) + ((1 : Int))) < 3000) ∧ (-2147483648 ≤ ((mi_f h 14029) + ((1 : Int))) + ((1 : Int)) ∧ ((mi_f h 14029) + ((1 : Int))) + ((1 : Int)) ≤ 2147483647) ∧ (0 ≤ ((mi_f h 14029) + ((1 : Int))) ∧ ((mi_f h 14029) + ((1 : Int))) < 3000)) (kon : ∀ h1, me_W [.inr (.inr (.inl (167, Int.toNat ((mi_f h 14029) + ((1 : Int))), zt))), .inl (14029, ((mi_f h 14029) + ((1 : Int))) + ((1 : Int))), .inr (.inr (.inl (166, Int.toNat ((mi_f h 14029) + ((1 : Int))), zu))), .inr (.inr (.inl (165, Int.toNat ((mi_f h 14029) + ((1 : Int))), (5 : Int)))), .inr (.inr (.inl (167, Int.toNat (mi_f h 14029), (0 : Int)))), .inl (14029, (mi_f h 14029) + ((1 : Int))), .inr (.inr (.inl (166, Int.toNat (mi_f h 14029), (0 : Int)))), .inr (.inr (.inl (165, Int.toNat (mi_f h 14029), (2 : Int)))), .inl (14031, (Int32.ofInt (mi_f h 14031) + Int32.ofInt ((1 : Int))).toInt)] h h1 → Q none h1) : me_E (d + 6) 210 91 [some (.inr (.inr 109)), some (.inl (zu)), some (.inl (zo)), some (.inl (zn)), none] [.inl (zt)] h Q := me_seg (mp_unE_1 h d zu zo zn zt) (mi_tab_unE_1) hS (mi_okL_c (trivial) (mi_okL_c (ok_zu) (mi_okL_c (ok_zo) (mi_okL_c (ok_zn) (mi_okL_n (mi_okL_e)))))) (mi_okS_cons (ok_zt) (mi_okS_e)) (mi_al (ho.1) (mi_al (ho.2.1) (mi_al (ho.2.2.1) (mi_al (ho.2.2.2.1) (mi_al (ho.2.2.2.2.1) (mi_al (ho.2.2.2.2.2.1) (mi_al (ho.2.2.2.2.2.2.1) (mi_al (ho.2.2.2.2.2.2.2.1) (mi_al (ho.2.2.2.2.2.2.2.2) (mi_al_e)))))))))) (fun h1 W _ hst => me_ret (M := (5, 0, sb_210)) rfl rfl rfl hst (mi_al_e) (kon h1 W))
set_option maxRecDepth 20000 in
theorem mt_unE {h : sm_H} {d : Nat} {Q : Option mi_V → sm_H → Prop} {zu zo zn zt : Int} (hS : ab_Sh sx_sk h) (ok_zu : mi_in zu) (ok_zo : mi_in zo) (ok_zn : mi_in zn) (ok_zt : mi_in zt) (k0 : ((-2147483648) ≤ mi_f h 14028 ∧ mi_f h 14028 ≤ 2147483647) → ((-2147483648) ≤ mi_f h 14029 ∧ mi_f h 14029 ≤ 2147483647) → ((mi_f h 14028) ≠ ((0 : Int))) → ((0 ≤ (mi_f h 14029) ∧ (mi_f h 14029) < 3000) ∧ (-2147483648 ≤ (mi_f h 14029) + ((1 : Int)) ∧ (mi_f h 14029) + ((1 : Int)) ≤ 2147483647) ∧ (0 ≤ ((mi_f h 14029) + ((1 : Int))) ∧ ((mi_f h 14029) + ((1 : Int))) < 3000) ∧ (-2147483648 ≤ ((mi_f h 14029) + ((1 : Int))) + ((1 : Int)) ∧ ((mi_f h 14029) + ((1 : Int))) + ((1 : Int)) ≤ 2147483647)) ∧ (∀ h1, ab_Sh sx_sk h1 → mi_f h1 14029 = ((mi_f h 14029) + ((1 : Int))) + ((1 : Int)) → mi_f h1 14031 = (Int32.ofInt (mi_f h 14031) + Int32.ofInt ((1 : Int))).toInt → (∀ i, mi_a h1 165 i = if i = Int.toNat ((mi_f h 14029) + ((1 : Int))) then (5 : Int) else if i = Int.toNat (mi_f h 14029) then (2 : Int) else (mi_a h 165 i)) → (∀ i, mi_a h1 166 i = if i = Int.toNat ((mi_f h 14029) + ((1 : Int))) then zu else if i = Int.toNat (mi_f h 14029) then (0 : Int) else (mi_a h 166 i)) → (∀ i, mi_a h1 167 i = if i = Int.toNat ((mi_f h 14029) + ((1 : Int))) then zn else if i = Int.toNat (mi_f h 14029) then (0 : Int) else (mi_a h 167 i)) → ab_Fr [(14029, 14030), (14031, 14032), (21120, 21121), (21248, 21249), (21376, 21377)] h h1 → Q none h1)) (k1 : ((-2147483648) ≤ mi_f h 14028 ∧ mi_f h 14028 ≤ 2147483647) → ((-2147483648) ≤ mi_f h 14029 ∧ mi_f h 14029 ≤ 2147483647) → ((mi_f h 14028) = ((0 : Int))) → ((0 ≤ (mi_f h 14029) ∧ (mi_f h 14029) < 3000) ∧ (-2147483648 ≤ (mi_f h 14029) + ((1 : Int)) ∧ (mi_f h 14029) + ((1 : Int)) ≤ 2147483647) ∧ (0 ≤ ((mi_f h 14029) + ((1 : Int))) ∧ ((mi_f h 14029) + ((1 : Int))) < 3000) ∧ (-2147483648 ≤ ((mi_f h 14029) + ((1 : Int))) + ((1 : Int)) ∧ ((mi_f h 14029) + ((1 : Int))) + ((1 : Int)) ≤ 2147483647)) ∧ (∀ h1, ab_Sh sx_sk h1 → mi_f h1 14029 = ((mi_f h 14029) + ((1 : Int))) + ((1 : Int)) → mi_f h1 14031 = (Int32.ofInt (mi_f h 14031) + Int32.ofInt ((1 : Int))).toInt → (∀ i, mi_a h1 165 i = if i = Int.toNat ((mi_f h 14029) + ((1 : Int))) then (5 : Int) else if i = Int.toNat (mi_f h 14029) then (2 : Int) else (mi_a h 165 i)) → (∀ i, mi_a h1 166 i = if i = Int.toNat ((mi_f h 14029) + ((1 : Int))) then zu else if i = Int.toNat (mi_f h 14029) then (0 : Int) else (mi_a h 166 i)) → (∀ i, mi_a h1 167 i = if i = Int.toNat ((mi_f h 14029) + ((1 : Int))) then zt else if i = Int.toNat (mi_f h 14029) then (0 : Int) else (mi_a h 167 i)) → ab_Fr [(14029, 14030), (14031, 14032), (21120, 21121), (21248, 21249), (21376, 21377)] h h1 → Q none h1)) : me_E (d + 6) 210 91 [some (.inr (.inr 109)), some (.inl (zu)), some (.inl (zo)), some (.inl (zn)), none] [.inl (zt)] h Q := Or.elim (mi_em .ne ((mi_f h 14028)) (((0 : Int)))) (fun c0 => ms_unE_0 hS ok_zu ok_zo ok_zn ok_zt ⟨(k0 (me_fb hS rfl) (me_fb hS rfl) c0).1.1, (k0 (me_fb hS rfl) (me_fb hS rfl) c0).1.1, (k0 (me_fb hS rfl) (me_fb hS rfl) c0).1.2.1, (k0 (me_fb hS rfl) (me_fb hS rfl) c0).1.1, c0, (k0 (me_fb hS rfl) (me_fb hS rfl) c0).1.2.2.1, (k0 (me_fb hS rfl) (me_fb hS rfl) c0).1.2.2.1, (k0 (me_fb hS rfl) (me_fb hS rfl) c0).1.2.2.2, (k0 (me_fb hS rfl) (me_fb hS rfl) c0).1.2.2.1⟩ (fun h1 W => (k0 (me_fb hS rfl) (me_fb hS rfl) c0).2 h1 W.1 (W.2.1 14029) (W.2.1 14031) (fun i => W.2.2.1 165 i) (fun i => W.2.2.1 166 i) (fun i => W.2.2.1 167 i) (W.2.2.2.2.2 _ rfl))) (fun c0 => ms_unE_1 hS ok_zu ok_zo ok_zn ok_zt ⟨(k1 (me_fb hS rfl) (me_fb hS rfl) c0).1.1, (k1 (me_fb hS rfl) (me_fb hS rfl) c0).1.1, (k1 (me_fb hS rfl) (me_fb hS rfl) c0).1.2.1, (k1 (me_fb hS rfl) (me_fb hS rfl) c0).1.1, c0, (k1 (me_fb hS rfl) (me_fb hS rfl) c0).1.2.2.1, (k1 (me_fb hS rfl) (me_fb hS rfl) c0).1.2.2.1, (k1 (me_fb hS rfl) (me_fb hS rfl) c0).1.2.2.2, (k1 (me_fb hS rfl) (me_fb hS rfl) c0).1.2.2.1⟩ (fun h1 W => (k1 (me_fb hS rfl) (me_fb hS rfl) c0).2 h1 W.1 (W.2.1 14029) (W.2.1 14031) (fun i => W.2.2.1 165 i) (fun i => W.2.2.1 166 i) (fun i => W.2.2.1 167 i) (W.2.2.2.2.2 _ rfl)))
set_option maxRecDepth 20000 in
theorem mp_unF_0 (h : sm_H) (d : Nat) (zu zo zz : Int) : mi_path [(210, (5, 0, sb_210))] sx_sk h 1 [] (d + 6, 210, 166, [some (.inr (.inr 109)), some (.inl (zu)), some (.inl (zo)), none, none], [.inl (zz)], [], []) = some ((d + 6, 210, 208, [some (.inr (.inr 109)), some (.inl (zu)), some (.inl (zo)), none, none], [.inl (zz)], [], []), []) := rfl
theorem mi_tab_unF_0 : ∀ e ∈ ([(210, (5, 0, sb_210))] : mi_T), sc_P e.1 = some e.2 := mi_tb mi_P210 (mi_tb_e)
set_option maxRecDepth 20000 in
theorem ms_unF_0 {h : sm_H} {d : Nat} {Q : Option mi_V → sm_H → Prop} {zu zo zz : Int} (hS : ab_Sh sx_sk h) (ok_zu : mi_in zu) (ok_zo : mi_in zo) (ok_zz : mi_in zz) (kon : ∀ h1, me_W [] h h1 → me_E (d + 6) 210 208 [some (.inr (.inr 109)), some (.inl (zu)), some (.inl (zo)), none, none] [.inl (zz)] h1 Q) : me_E (d + 6) 210 166 [some (.inr (.inr 109)), some (.inl (zu)), some (.inl (zo)), none, none] [.inl (zz)] h Q := me_seg (mp_unF_0 h d zu zo zz) (mi_tab_unF_0) hS (mi_okL_c (trivial) (mi_okL_c (ok_zu) (mi_okL_c (ok_zo) (mi_okL_n (mi_okL_n (mi_okL_e)))))) (mi_okS_cons (ok_zz) (mi_okS_e)) (mi_al_e) (fun h1 W _ hst => kon h1 W)
set_option maxRecDepth 20000 in
theorem mt_unF {h : sm_H} {d : Nat} {Q : Option mi_V → sm_H → Prop} {zu zo zz : Int} (hS : ab_Sh sx_sk h) (ok_zu : mi_in zu) (ok_zo : mi_in zo) (ok_zz : mi_in zz) (k0 : (∀ h1, ab_Sh sx_sk h1 → ab_Fr [] h h1 → me_E (d + 6) 210 208 [some (.inr (.inr 109)), some (.inl (zu)), some (.inl (zo)), none, none] [.inl (zz)] h1 Q)) : me_E (d + 6) 210 166 [some (.inr (.inr 109)), some (.inl (zu)), some (.inl (zo)), none, none] [.inl (zz)] h Q := ms_unF_0 hS ok_zu ok_zo ok_zz (fun h1 W => (k0) h1 W.1 (W.2.2.2.2.2 _ rfl))
set_option maxRecDepth 20000 in
theorem mp_unG_0 (h : sm_H) (d : Nat) (zu zo zz : Int) : mi_path [(210, (5, 0, sb_210))] sx_sk h 2 [1] (d + 6, 210, 200, [some (.inr (.inr 109)), some (.inl (zu)), some (.inl (zo)), none, none], [.inl (zz)], [], []) = some ((d + 6, 210, 208, [some (.inr (.inr 109)), some (.inl (zu)), some (.inl (zo)), none, none], [.inl ((0 : Int))], [], []), [zz = ((0 : Int))]) := rfl
theorem mi_tab_unG_0 : ∀ e ∈ ([(210, (5, 0, sb_210))] : mi_T), sc_P e.1 = some e.2 := mi_tb mi_P210 (mi_tb_e)
set_option maxRecDepth 20000 in
theorem ms_unG_0 {h : sm_H} {d : Nat} {Q : Option mi_V → sm_H → Prop} {zu zo zz : Int} (hS : ab_Sh sx_sk h) (ok_zu : mi_in zu) (ok_zo : mi_in zo) (ok_zz : mi_in zz) (ho : (zz = ((0 : Int)))) (kon : ∀ h1, me_W [] h h1 → me_E (d + 6) 210 208 [some (.inr (.inr 109)), some (.inl (zu)), some (.inl (zo)), none, none] [.inl ((0 : Int))] h1 Q) : me_E (d + 6) 210 200 [some (.inr (.inr 109)), some (.inl (zu)), some (.inl (zo)), none, none] [.inl (zz)] h Q := me_seg (mp_unG_0 h d zu zo zz) (mi_tab_unG_0) hS (mi_okL_c (trivial) (mi_okL_c (ok_zu) (mi_okL_c (ok_zo) (mi_okL_n (mi_okL_n (mi_okL_e)))))) (mi_okS_cons (ok_zz) (mi_okS_e)) (mi_al (ho) (mi_al_e)) (fun h1 W _ hst => kon h1 W)
set_option maxRecDepth 20000 in
theorem mp_unG_1 (h : sm_H) (d : Nat) (zu zo zz : Int) : mi_path [(210, (5, 0, sb_210))] sx_sk h 3 [0] (d + 6, 210, 200, [some (.inr (.inr 109)), some (.inl (zu)), some (.inl (zo)), none, none], [.inl (zz)], [], []) = some ((d + 6, 210, 208, [some (.inr (.inr 109)), some (.inl (zu)), some (.inl (zo)), none, none], [.inl ((1 : Int))], [], []), [zz ≠ ((0 : Int))]) := rfl
theorem mi_tab_unG_1 : ∀ e ∈ ([(210, (5, 0, sb_210))] : mi_T), sc_P e.1 = some e.2 := mi_tb mi_P210 (mi_tb_e)
set_option maxRecDepth 20000 in
theorem ms_unG_1 {h : sm_H} {d : Nat} {Q : Option mi_V → sm_H → Prop} {zu zo zz : Int} (hS : ab_Sh sx_sk h) (ok_zu : mi_in zu) (ok_zo : mi_in zo) (ok_zz : mi_in zz) (ho : (zz ≠ ((0 : Int)))) (kon : ∀ h1, me_W [] h h1 → me_E (d + 6) 210 208 [some (.inr (.inr 109)), some (.inl (zu)), some (.inl (zo)), none, none] [.inl ((1 : Int))] h1 Q) : me_E (d + 6) 210 200 [some (.inr (.inr 109)), some (.inl (zu)), some (.inl (zo)), none, none] [.inl (zz)] h Q := me_seg (mp_unG_1 h d zu zo zz) (mi_tab_unG_1) hS (mi_okL_c (trivial) (mi_okL_c (ok_zu) (mi_okL_c (ok_zo) (mi_okL_n (mi_okL_n (mi_okL_e)))))) (mi_okS_cons (ok_zz) (mi_okS_e)) (mi_al (ho) (mi_al_e)) (fun h1 W _ hst => kon h1 W)
set_option maxRecDepth 20000 in
theorem mt_unG {h : sm_H} {d : Nat} {Q : Option mi_V → sm_H → Prop} {zu zo zz : Int} (hS : ab_Sh sx_sk h) (ok_zu : mi_in zu) (ok_zo : mi_in zo) (ok_zz : mi_in zz) (k0 : (zz = ((0 : Int))) → (∀ h1, ab_Sh sx_sk h1 → ab_Fr [] h h1 → me_E (d + 6) 210 208 [some (.inr (.inr 109)), some (.inl (zu)), some (.inl (zo)), none, none] [.inl ((0 : Int))] h1 Q)) (k1 : (zz ≠ ((0 : Int))) → (∀ h1, ab_Sh sx_sk h1 → ab_Fr [] h h1 → me_E (d + 6) 210 208 [some (.inr (.inr 109)), some (.inl (zu)), some (.inl (zo)), none, none] [.inl ((1 : Int))] h1 Q)) : me_E (d + 6) 210 200 [some (.inr (.inr 109)), some (.inl (zu)), some (.inl (zo)), none, none] [.inl (zz)] h Q := Or.elim (mi_em .eq (zz) (((0 : Int)))) (fun c0 => ms_unG_0 hS ok_zu ok_zo ok_zz (c0) (fun h1 W => (k0 c0) h1 W.1 (W.2.2.2.2.2 _ rfl))) (fun c0 => ms_unG_1 hS ok_zu ok_zo ok_zz (c0) (fun h1 W => (k1 c0) h1 W.1 (W.2.2.2.2.2 _ rfl)))
set_option maxRecDepth 20000 in
theorem mp_unH_0 (h : sm_H) (d : Nat) (zu zo zn : Int) : mi_path [(210, (5, 0, sb_210))] sx_sk h 5 [] (d + 6, 210, 208, [some (.inr (.inr 109)), some (.inl (zu)), some (.inl (zo)), none, none], [.inl (zn)], [], []) = some ((d + 6, 210, 214, [some (.inr (.inr 109)), some (.inl (zu)), some (.inl (zo)), some (.inl (zn)), none], [.inr (.inl ((Int32.ofInt zn).toInt64)), .inl ((6 : Int)), .inr (.inr 109)], [], []), []) := rfl
theorem mi_tab_unH_0 : ∀ e ∈ ([(210, (5, 0, sb_210))] : mi_T), sc_P e.1 = some e.2 := mi_tb mi_P210 (mi_tb_e)
set_option maxRecDepth 20000 in
theorem ms_unH_0 {h : sm_H} {d : Nat} {Q : Option mi_V → sm_H → Prop} {zu zo zn : Int} (hS : ab_Sh sx_sk h) (ok_zu : mi_in zu) (ok_zo : mi_in zo) (ok_zn : mi_in zn) (kon : ∀ h1, me_W [] h h1 → ∃ Q1, me_E (d + 5) 208 0 (mi_entry 4 [.inr (.inr 109), .inl ((6 : Int)), .inr (.inl ((Int32.ofInt zn).toInt64))]) [] h1 Q1 ∧ ∀ w h2, (∀ x, w = some x → mi_ok x) → Q1 w h2 → me_E (d + 6) 210 217 [some (.inr (.inr 109)), some (.inl (zu)), some (.inl (zo)), some (.inl (zn)), none] (mi_back w []) h2 Q) : me_E (d + 6) 210 208 [some (.inr (.inr 109)), some (.inl (zu)), some (.inl (zo)), none, none] [.inl (zn)] h Q := me_seg (mp_unH_0 h d zu zo zn) (mi_tab_unH_0) hS (mi_okL_c (trivial) (mi_okL_c (ok_zu) (mi_okL_c (ok_zo) (mi_okL_n (mi_okL_n (mi_okL_e)))))) (mi_okS_cons (ok_zn) (mi_okS_e)) (mi_al_e) (fun h1 W _ hst => let ⟨_, k1, k2⟩ := kon h1 W; me_call (M := (5, 0, sb_210)) (M' := (4, 1, sb_208)) rfl rfl rfl rfl (Nat.le_of_ble_eq_true rfl) (Nat.le_of_ble_eq_true rfl) W.1 k1 k2)
set_option maxRecDepth 20000 in
theorem mt_unH {h : sm_H} {d : Nat} {Q : Option mi_V → sm_H → Prop} {zu zo zn : Int} (hS : ab_Sh sx_sk h) (ok_zu : mi_in zu) (ok_zo : mi_in zo) (ok_zn : mi_in zn) (k0 : (∀ h1, ab_Sh sx_sk h1 → ab_Fr [] h h1 → ∃ Q1, me_E (d + 5) 208 0 (mi_entry 4 [.inr (.inr 109), .inl ((6 : Int)), .inr (.inl ((Int32.ofInt zn).toInt64))]) [] h1 Q1 ∧ ∀ w h2, (∀ x, w = some x → mi_ok x) → Q1 w h2 → me_E (d + 6) 210 217 [some (.inr (.inr 109)), some (.inl (zu)), some (.inl (zo)), some (.inl (zn)), none] (mi_back w []) h2 Q)) : me_E (d + 6) 210 208 [some (.inr (.inr 109)), some (.inl (zu)), some (.inl (zo)), none, none] [.inl (zn)] h Q := ms_unH_0 hS ok_zu ok_zo ok_zn (fun h1 W => (k0) h1 W.1 (W.2.2.2.2.2 _ rfl))
set_option maxRecDepth 20000 in
theorem mp_unI_0 (h : sm_H) (d : Nat) (zu zo zn zt : Int) : mi_path [(210, (5, 0, sb_210)), (209, (4, 0, sb_209))] sx_sk h 39 [9, 8, 1] (d + 6, 210, 217, [some (.inr (.inr 109)), some (.inl (zu)), some (.inl (zo)), some (.inl (zn)), none], [.inl (zt)], [], []) = some ((d + 6, 210, 259, [some (.inr (.inr 109)), some (.inl (zu)), some (.inl (zo)), some (.inl (zn)), none], [], [.inr (.inr (.inl (167, Int.toNat (mi_f h 14029), (0 : Int)))), .inl (14029, (mi_f h 14029) + ((1 : Int))), .inr (.inr (.inl (166, Int.toNat (mi_f h 14029), (0 : Int)))), .inr (.inr (.inl (165, Int.toNat (mi_f h 14029), (2 : Int)))), .inl (14031, (Int32.ofInt (mi_f h 14031) + Int32.ofInt ((1 : Int))).toInt)], []), [0 ≤ (mi_f h 14029) ∧ (mi_f h 14029) < 3000, 0 ≤ (mi_f h 14029) ∧ (mi_f h 14029) < 3000, -2147483648 ≤ (mi_f h 14029) + ((1 : Int)) ∧ (mi_f h 14029) + ((1 : Int)) ≤ 2147483647, 0 ≤ (mi_f h 14029) ∧ (mi_f h 14029) < 3000, zn ≤ ((0 : Int))]) := rfl
theorem mi_tab_unI_0 : ∀ e ∈ ([(210, (5, 0, sb_210)), (209, (4, 0, sb_209))] : mi_T), sc_P e.1 = some e.2 := mi_tb mi_P210 (mi_tb mi_P209 (mi_tb_e))
set_option maxRecDepth 20000 in
theorem ms_unI_0 {h : sm_H} {d : Nat} {Q : Option mi_V → sm_H → Prop} {zu zo zn zt : Int} (hS : ab_Sh sx_sk h) (ok_zu : mi_in zu) (ok_zo : mi_in zo) (ok_zn : mi_in zn) (ok_zt : mi_in zt) (ho : (0 ≤ (mi_f h 14029) ∧ (mi_f h 14029) < 3000) ∧ (0 ≤ (mi_f h 14029) ∧ (mi_f h 14029) < 3000) ∧ (-2147483648 ≤ (mi_f h 14029) + ((1 : Int)) ∧ (mi_f h 14029) + ((1 : Int)) ≤ 2147483647) ∧ (0 ≤ (mi_f h 14029) ∧ (mi_f h 14029) < 3000) ∧ (zn ≤ ((0 : Int)))) (kon : ∀ h1, me_W [.inr (.inr (.inl (167, Int.toNat (mi_f h 14029), (0 : Int)))), .inl (14029, (mi_f h 14029) + ((1 : Int))), .inr (.inr (.inl (166, Int.toNat (mi_f h 14029), (0 : Int)))), .inr (.inr (.inl (165, Int.toNat (mi_f h 14029), (2 : Int)))), .inl (14031, (Int32.ofInt (mi_f h 14031) + Int32.ofInt ((1 : Int))).toInt)] h h1 → Q none h1) : me_E (d + 6) 210 217 [some (.inr (.inr 109)), some (.inl (zu)), some (.inl (zo)), some (.inl (zn)), none] [.inl (zt)] h Q := me_seg (mp_unI_0 h d zu zo zn zt) (mi_tab_unI_0) hS (mi_okL_c (trivial) (mi_okL_c (ok_zu) (mi_okL_c (ok_zo) (mi_okL_c (ok_zn) (mi_okL_n (mi_okL_e)))))) (mi_okS_cons (ok_zt) (mi_okS_e)) (mi_al (ho.1) (mi_al (ho.2.1) (mi_al (ho.2.2.1) (mi_al (ho.2.2.2.1) (mi_al (ho.2.2.2.2) (mi_al_e)))))) (fun h1 W _ hst => me_ret (M := (5, 0, sb_210)) rfl rfl rfl hst (mi_al_e) (kon h1 W))
set_option maxRecDepth 20000 in
theorem mp_unI_1 (h : sm_H) (d : Nat) (zu zo zn zt : Int) : mi_path [(210, (5, 0, sb_210)), (209, (4, 0, sb_209))] sx_sk h 42 [9, 8, 0, 1] (d + 6, 210, 217, [some (.inr (.inr 109)), some (.inl (zu)), some (.inl (zo)), some (.inl (zn)), none], [.inl (zt)], [], []) = some ((d + 6, 210, 259, [some (.inr (.inr 109)), some (.inl (zu)), some (.inl (zo)), some (.inl (zn)), none], [], [.inr (.inr (.inl (167, Int.toNat (mi_f h 14029), (0 : Int)))), .inl (14029, (mi_f h 14029) + ((1 : Int))), .inr (.inr (.inl (166, Int.toNat (mi_f h 14029), (0 : Int)))), .inr (.inr (.inl (165, Int.toNat (mi_f h 14029), (2 : Int)))), .inl (14031, (Int32.ofInt (mi_f h 14031) + Int32.ofInt ((1 : Int))).toInt)], []), [0 ≤ (mi_f h 14029) ∧ (mi_f h 14029) < 3000, 0 ≤ (mi_f h 14029) ∧ (mi_f h 14029) < 3000, -2147483648 ≤ (mi_f h 14029) + ((1 : Int)) ∧ (mi_f h 14029) + ((1 : Int)) ≤ 2147483647, 0 ≤ (mi_f h 14029) ∧ (mi_f h 14029) < 3000, ((0 : Int)) < zn, (mi_f h 14044) ≠ ((0 : Int))]) := rfl
theorem mi_tab_unI_1 : ∀ e ∈ ([(210, (5, 0, sb_210)), (209, (4, 0, sb_209))] : mi_T), sc_P e.1 = some e.2 := mi_tb mi_P210 (mi_tb mi_P209 (mi_tb_e))
set_option maxRecDepth 20000 in
theorem ms_unI_1 {h : sm_H} {d : Nat} {Q : Option mi_V → sm_H → Prop} {zu zo zn zt : Int} (hS : ab_Sh sx_sk h) (ok_zu : mi_in zu) (ok_zo : mi_in zo) (ok_zn : mi_in zn) (ok_zt : mi_in zt) (ho : (0 ≤ (mi_f h 14029) ∧ (mi_f h 14029) < 3000) ∧ (0 ≤ (mi_f h 14029) ∧ (mi_f h 14029) < 3000) ∧ (-2147483648 ≤ (mi_f h 14029) + ((1 : Int)) ∧ (mi_f h 14029) + ((1 : Int)) ≤ 2147483647) ∧ (0 ≤ (mi_f h 14029) ∧ (mi_f h 14029) < 3000) ∧ (((0 : Int)) < zn) ∧ ((mi_f h 14044) ≠ ((0 : Int)))) (kon : ∀ h1, me_W [.inr (.inr (.inl (167, Int.toNat (mi_f h 14029), (0 : Int)))), .inl (14029, (mi_f h 14029) + ((1 : Int))), .inr (.inr (.inl (166, Int.toNat (mi_f h 14029), (0 : Int)))), .inr (.inr (.inl (165, Int.toNat (mi_f h 14029), (2 : Int)))), .inl (14031, (Int32.ofInt (mi_f h 14031) + Int32.ofInt ((1 : Int))).toInt)] h h1 → Q none h1) : me_E (d + 6) 210 217 [some (.inr (.inr 109)), some (.inl (zu)), some (.inl (zo)), some (.inl (zn)), none] [.inl (zt)] h Q := me_seg (mp_unI_1 h d zu zo zn zt) (mi_tab_unI_1) hS (mi_okL_c (trivial) (mi_okL_c (ok_zu) (mi_okL_c (ok_zo) (mi_okL_c (ok_zn) (mi_okL_n (mi_okL_e)))))) (mi_okS_cons (ok_zt) (mi_okS_e)) (mi_al (ho.1) (mi_al (ho.2.1) (mi_al (ho.2.2.1) (mi_al (ho.2.2.2.1) (mi_al (ho.2.2.2.2.1) (mi_al (ho.2.2.2.2.2) (mi_al_e))))))) (fun h1 W _ hst => me_ret (M := (5, 0, sb_210)) rfl rfl rfl hst (mi_al_e) (kon h1 W))
set_option maxRecDepth 20000 in
theorem mp_unI_2 (h : sm_H) (d : Nat) (zu zo zn zt : Int) : mi_path [(210, (5, 0, sb_210)), (209, (4, 0, sb_209))] sx_sk h 43 [9, 8, 0, 0] (d + 6, 210, 217, [some (.inr (.inr 109)), some (.inl (zu)), some (.inl (zo)), some (.inl (zn)), none], [.inl (zt)], [], []) = some ((d + 6, 210, 248, [some (.inr (.inr 109)), some (.inl (zu)), some (.inl (zo)), some (.inl (zn)), none], [.inl (zu), .inr (.inr 109)], [.inr (.inr (.inl (167, Int.toNat (mi_f h 14029), (0 : Int)))), .inl (14029, (mi_f h 14029) + ((1 : Int))), .inr (.inr (.inl (166, Int.toNat (mi_f h 14029), (0 : Int)))), .inr (.inr (.inl (165, Int.toNat (mi_f h 14029), (2 : Int)))), .inl (14031, (Int32.ofInt (mi_f h 14031) + Int32.ofInt ((1 : Int))).toInt)], []), [0 ≤ (mi_f h 14029) ∧ (mi_f h 14029) < 3000, 0 ≤ (mi_f h 14029) ∧ (mi_f h 14029) < 3000, -2147483648 ≤ (mi_f h 14029) + ((1 : Int)) ∧ (mi_f h 14029) + ((1 : Int)) ≤ 2147483647, 0 ≤ (mi_f h 14029) ∧ (mi_f h 14029) < 3000, ((0 : Int)) < zn, (mi_f h 14044) = ((0 : Int))]) := rfl
theorem mi_tab_unI_2 : ∀ e ∈ ([(210, (5, 0, sb_210)), (209, (4, 0, sb_209))] : mi_T), sc_P e.1 = some e.2 := mi_tb mi_P210 (mi_tb mi_P209 (mi_tb_e))
set_option maxRecDepth 20000 in
theorem ms_unI_2 {h : sm_H} {d : Nat} {Q : Option mi_V → sm_H → Prop} {zu zo zn zt : Int} (hS : ab_Sh sx_sk h) (ok_zu : mi_in zu) (ok_zo : mi_in zo) (ok_zn : mi_in zn) (ok_zt : mi_in zt) (ho : (0 ≤ (mi_f h 14029) ∧ (mi_f h 14029) < 3000) ∧ (0 ≤ (mi_f h 14029) ∧ (mi_f h 14029) < 3000) ∧ (-2147483648 ≤ (mi_f h 14029) + ((1 : Int)) ∧ (mi_f h 14029) + ((1 : Int)) ≤ 2147483647) ∧ (0 ≤ (mi_f h 14029) ∧ (mi_f h 14029) < 3000) ∧ (((0 : Int)) < zn) ∧ ((mi_f h 14044) = ((0 : Int)))) (kon : ∀ h1, me_W [.inr (.inr (.inl (167, Int.toNat (mi_f h 14029), (0 : Int)))), .inl (14029, (mi_f h 14029) + ((1 : Int))), .inr (.inr (.inl (166, Int.toNat (mi_f h 14029), (0 : Int)))), .inr (.inr (.inl (165, Int.toNat (mi_f h 14029), (2 : Int)))), .inl (14031, (Int32.ofInt (mi_f h 14031) + Int32.ofInt ((1 : Int))).toInt)] h h1 → ∃ Q1, me_E (d + 5) 213 0 (mi_entry 2 [.inr (.inr 109), .inl (zu)]) [] h1 Q1 ∧ ∀ w h2, (∀ x, w = some x → mi_ok x) → Q1 w h2 → me_E (d + 6) 210 251 [some (.inr (.inr 109)), some (.inl (zu)), some (.inl (zo)), some (.inl (zn)), none] (mi_back w []) h2 Q) : me_E (d + 6) 210 217 [some (.inr (.inr 109)), some (.inl (zu)), some (.inl (zo)), some (.inl (zn)), none] [.inl (zt)] h Q := me_seg (mp_unI_2 h d zu zo zn zt) (mi_tab_unI_2) hS (mi_okL_c (trivial) (mi_okL_c (ok_zu) (mi_okL_c (ok_zo) (mi_okL_c (ok_zn) (mi_okL_n (mi_okL_e)))))) (mi_okS_cons (ok_zt) (mi_okS_e)) (mi_al (ho.1) (mi_al (ho.2.1) (mi_al (ho.2.2.1) (mi_al (ho.2.2.2.1) (mi_al (ho.2.2.2.2.1) (mi_al (ho.2.2.2.2.2) (mi_al_e))))))) (fun h1 W _ hst => let ⟨_, k1, k2⟩ := kon h1 W; me_call (M := (5, 0, sb_210)) (M' := (2, 0, sb_213)) rfl rfl rfl rfl (Nat.le_of_ble_eq_true rfl) (Nat.le_of_ble_eq_true rfl) W.1 k1 k2)
set_option maxRecDepth 20000 in
theorem mt_unI {h : sm_H} {d : Nat} {Q : Option mi_V → sm_H → Prop} {zu zo zn zt : Int} (hS : ab_Sh sx_sk h) (ok_zu : mi_in zu) (ok_zo : mi_in zo) (ok_zn : mi_in zn) (ok_zt : mi_in zt) (k0 : ((-2147483648) ≤ mi_f h 14029 ∧ mi_f h 14029 ≤ 2147483647) → (zn ≤ ((0 : Int))) → ((0 ≤ (mi_f h 14029) ∧ (mi_f h 14029) < 3000) ∧ (-2147483648 ≤ (mi_f h 14029) + ((1 : Int)) ∧ (mi_f h 14029) + ((1 : Int)) ≤ 2147483647)) ∧ (∀ h1, ab_Sh sx_sk h1 → mi_f h1 14029 = (mi_f h 14029) + ((1 : Int)) → mi_f h1 14031 = (Int32.ofInt (mi_f h 14031) + Int32.ofInt ((1 : Int))).toInt → (∀ i, mi_a h1 165 i = if i = Int.toNat (mi_f h 14029) then (2 : Int) else (mi_a h 165 i)) → (∀ i, mi_a h1 166 i = if i = Int.toNat (mi_f h 14029) then (0 : Int) else (mi_a h 166 i)) → (∀ i, mi_a h1 167 i = if i = Int.toNat (mi_f h 14029) then (0 : Int) else (mi_a h 167 i)) → ab_Fr [(14029, 14030), (14031, 14032), (21120, 21121), (21248, 21249), (21376, 21377)] h h1 → Q none h1)) (k1 : (0 ≤ mi_f h 14044 ∧ mi_f h 14044 ≤ 1) → ((-2147483648) ≤ mi_f h 14029 ∧ mi_f h 14029 ≤ 2147483647) → (((0 : Int)) < zn) → ((mi_f h 14044) ≠ ((0 : Int))) → ((0 ≤ (mi_f h 14029) ∧ (mi_f h 14029) < 3000) ∧ (-2147483648 ≤ (mi_f h 14029) + ((1 : Int)) ∧ (mi_f h 14029) + ((1 : Int)) ≤ 2147483647)) ∧ (∀ h1, ab_Sh sx_sk h1 → mi_f h1 14029 = (mi_f h 14029) + ((1 : Int)) → mi_f h1 14031 = (Int32.ofInt (mi_f h 14031) + Int32.ofInt ((1 : Int))).toInt → (∀ i, mi_a h1 165 i = if i = Int.toNat (mi_f h 14029) then (2 : Int) else (mi_a h 165 i)) → (∀ i, mi_a h1 166 i = if i = Int.toNat (mi_f h 14029) then (0 : Int) else (mi_a h 166 i)) → (∀ i, mi_a h1 167 i = if i = Int.toNat (mi_f h 14029) then (0 : Int) else (mi_a h 167 i)) → ab_Fr [(14029, 14030), (14031, 14032), (21120, 21121), (21248, 21249), (21376, 21377)] h h1 → Q none h1)) (k2 : (0 ≤ mi_f h 14044 ∧ mi_f h 14044 ≤ 1) → ((-2147483648) ≤ mi_f h 14029 ∧ mi_f h 14029 ≤ 2147483647) → (((0 : Int)) < zn) → ((mi_f h 14044) = ((0 : Int))) → ((0 ≤ (mi_f h 14029) ∧ (mi_f h 14029) < 3000) ∧ (-2147483648 ≤ (mi_f h 14029) + ((1 : Int)) ∧ (mi_f h 14029) + ((1 : Int)) ≤ 2147483647)) ∧ (∀ h1, ab_Sh sx_sk h1 → mi_f h1 14029 = (mi_f h 14029) + ((1 : Int)) → mi_f h1 14031 = (Int32.ofInt (mi_f h 14031) + Int32.ofInt ((1 : Int))).toInt → (∀ i, mi_a h1 165 i = if i = Int.toNat (mi_f h 14029) then (2 : Int) else (mi_a h 165 i)) → (∀ i, mi_a h1 166 i = if i = Int.toNat (mi_f h 14029) then (0 : Int) else (mi_a h 166 i)) → (∀ i, mi_a h1 167 i = if i = Int.toNat (mi_f h 14029) then (0 : Int) else (mi_a h 167 i)) → ab_Fr [(14029, 14030), (14031, 14032), (21120, 21121), (21248, 21249), (21376, 21377)] h h1 → ∃ Q1, me_E (d + 5) 213 0 (mi_entry 2 [.inr (.inr 109), .inl (zu)]) [] h1 Q1 ∧ ∀ w h2, (∀ x, w = some x → mi_ok x) → Q1 w h2 → me_E (d + 6) 210 251 [some (.inr (.inr 109)), some (.inl (zu)), some (.inl (zo)), some (.inl (zn)), none] (mi_back w []) h2 Q)) : me_E (d + 6) 210 217 [some (.inr (.inr 109)), some (.inl (zu)), some (.inl (zo)), some (.inl (zn)), none] [.inl (zt)] h Q := Or.elim (mi_em .le (zn) (((0 : Int)))) (fun c0 => ms_unI_0 hS ok_zu ok_zo ok_zn ok_zt ⟨(k0 (me_fb hS rfl) c0).1.1, (k0 (me_fb hS rfl) c0).1.1, (k0 (me_fb hS rfl) c0).1.2, (k0 (me_fb hS rfl) c0).1.1, c0⟩ (fun h1 W => (k0 (me_fb hS rfl) c0).2 h1 W.1 (W.2.1 14029) (W.2.1 14031) (fun i => W.2.2.1 165 i) (fun i => W.2.2.1 166 i) (fun i => W.2.2.1 167 i) (W.2.2.2.2.2 _ rfl))) (fun c0 => Or.elim (mi_em .ne ((mi_f h 14044)) (((0 : Int)))) (fun c1 => ms_unI_1 hS ok_zu ok_zo ok_zn ok_zt ⟨(k1 (me_fb hS rfl) (me_fb hS rfl) c0 c1).1.1, (k1 (me_fb hS rfl) (me_fb hS rfl) c0 c1).1.1, (k1 (me_fb hS rfl) (me_fb hS rfl) c0 c1).1.2, (k1 (me_fb hS rfl) (me_fb hS rfl) c0 c1).1.1, c0, c1⟩ (fun h1 W => (k1 (me_fb hS rfl) (me_fb hS rfl) c0 c1).2 h1 W.1 (W.2.1 14029) (W.2.1 14031) (fun i => W.2.2.1 165 i) (fun i => W.2.2.1 166 i) (fun i => W.2.2.1 167 i) (W.2.2.2.2.2 _ rfl))) (fun c1 => ms_unI_2 hS ok_zu ok_zo ok_zn ok_zt ⟨(k2 (me_fb hS rfl) (me_fb hS rfl) c0 c1).1.1, (k2 (me_fb hS rfl) (me_fb hS rfl) c0 c1).1.1, (k2 (me_fb hS rfl) (me_fb hS rfl) c0 c1).1.2, (k2 (me_fb hS rfl) (me_fb hS rfl) c0 c1).1.1, c0, c1⟩ (fun h1 W => (k2 (me_fb hS rfl) (me_fb hS rfl) c0 c1).2 h1 W.1 (W.2.1 14029) (W.2.1 14031) (fun i => W.2.2.1 165 i) (fun i => W.2.2.1 166 i) (fun i => W.2.2.1 167 i) (W.2.2.2.2.2 _ rfl))))
set_option maxRecDepth 20000 in
theorem mp_unJ_0 (h : sm_H) (d : Nat) (zu zo zn : Int) : mi_path [(210, (5, 0, sb_210))] sx_sk h 1 [] (d + 6, 210, 251, [some (.inr (.inr 109)), some (.inl (zu)), some (.inl (zo)), some (.inl (zn)), none], [], [], []) = some ((d + 6, 210, 259, [some (.inr (.inr 109)), some (.inl (zu)), some (.inl (zo)), some (.inl (zn)), none], [], [], []), []) := rfl
theorem mi_tab_unJ_0 : ∀ e ∈ ([(210, (5, 0, sb_210))] : mi_T), sc_P e.1 = some e.2 := mi_tb mi_P210 (mi_tb_e)
set_option maxRecDepth 20000 in
theorem ms_unJ_0 {h : sm_H} {d : Nat} {Q : Option mi_V → sm_H → Prop} {zu zo zn : Int} (hS : ab_Sh sx_sk h) (ok_zu : mi_in zu) (ok_zo : mi_in zo) (ok_zn : mi_in zn) (kon : ∀ h1, me_W [] h h1 → Q none h1) : me_E (d + 6) 210 251 [some (.inr (.inr 109)), some (.inl (zu)), some (.inl (zo)), some (.inl (zn)), none] [] h Q := me_seg (mp_unJ_0 h d zu zo zn) (mi_tab_unJ_0) hS (mi_okL_c (trivial) (mi_okL_c (ok_zu) (mi_okL_c (ok_zo) (mi_okL_c (ok_zn) (mi_okL_n (mi_okL_e)))))) (mi_okS_e) (mi_al_e) (fun h1 W _ hst => me_ret (M := (5, 0, sb_210)) rfl rfl rfl hst (mi_al_e) (kon h1 W))
set_option maxRecDepth 20000 in
theorem mt_unJ {h : sm_H} {d : Nat} {Q : Option mi_V → sm_H → Prop} {zu zo zn : Int} (hS : ab_Sh sx_sk h) (ok_zu : mi_in zu) (ok_zo : mi_in zo) (ok_zn : mi_in zn) (k0 : (∀ h1, ab_Sh sx_sk h1 → ab_Fr [] h h1 → Q none h1)) : me_E (d + 6) 210 251 [some (.inr (.inr 109)), some (.inl (zu)), some (.inl (zo)), some (.inl (zn)), none] [] h Q := ms_unJ_0 hS ok_zu ok_zo ok_zn (fun h1 W => (k0) h1 W.1 (W.2.2.2.2.2 _ rfl))
set_option maxRecDepth 20000 in
theorem mp_unK_0 (h : sm_H) (d : Nat) (zu zo : Int) : mi_path [(210, (5, 0, sb_210))] sx_sk h 0 [] (d + 6, 210, 259, [some (.inr (.inr 109)), some (.inl (zu)), some (.inl (zo)), none, none], [], [], []) = some ((d + 6, 210, 259, [some (.inr (.inr 109)), some (.inl (zu)), some (.inl (zo)), none, none], [], [], []), []) := rfl
theorem mi_tab_unK_0 : ∀ e ∈ ([(210, (5, 0, sb_210))] : mi_T), sc_P e.1 = some e.2 := mi_tb mi_P210 (mi_tb_e)
set_option maxRecDepth 20000 in
theorem ms_unK_0 {h : sm_H} {d : Nat} {Q : Option mi_V → sm_H → Prop} {zu zo : Int} (hS : ab_Sh sx_sk h) (ok_zu : mi_in zu) (ok_zo : mi_in zo) (kon : ∀ h1, me_W [] h h1 → Q none h1) : me_E (d + 6) 210 259 [some (.inr (.inr 109)), some (.inl (zu)), some (.inl (zo)), none, none] [] h Q := me_seg (mp_unK_0 h d zu zo) (mi_tab_unK_0) hS (mi_okL_c (trivial) (mi_okL_c (ok_zu) (mi_okL_c (ok_zo) (mi_okL_n (mi_okL_n (mi_okL_e)))))) (mi_okS_e) (mi_al_e) (fun h1 W _ hst => me_ret (M := (5, 0, sb_210)) rfl rfl rfl hst (mi_al_e) (kon h1 W))
set_option maxRecDepth 20000 in
theorem mt_unK {h : sm_H} {d : Nat} {Q : Option mi_V → sm_H → Prop} {zu zo : Int} (hS : ab_Sh sx_sk h) (ok_zu : mi_in zu) (ok_zo : mi_in zo) (k0 : (∀ h1, ab_Sh sx_sk h1 → ab_Fr [] h h1 → Q none h1)) : me_E (d + 6) 210 259 [some (.inr (.inr 109)), some (.inl (zu)), some (.inl (zo)), none, none] [] h Q := ms_unK_0 hS ok_zu ok_zo (fun h1 W => (k0) h1 W.1 (W.2.2.2.2.2 _ rfl))
/-! again, unit -/
def wk_gk : List Nat := [114, 115, 119, 120, 122, 124, 125, 126, 128, 129, 130]
/-- the same description -/
def wk_gc (g g' : wk_g) : Prop := ∀ k, k ∈ wk_gk → ∀ i, g' k i = g k i
theorem wk_gc_fr {h h' : sm_H} {wr : List (Nat × Nat)} (hF : ab_Fr wr h h') (hS : ab_Sh sx_sk h) (hw : wk_gk.all (fun k => !ab_in wr (k * 128)) = true) : wk_gc (mi_a h) (mi_a h') := fun k hk i => by
  have h1 := List.all_eq_true.mp hw k hk
  refine me_a hF hS ?_ (by simpa using h1)
  have : wk_gk.all (fun k => (mx_isA sx_sk k || mx_isB sx_sk k)) = true := by decide
  exact List.all_eq_true.mp this k hk
section GC
variable {g g' : wk_g}
theorem wk_gc.trans {g2 : wk_g} (a : wk_gc g g') (b : wk_gc g' g2) : wk_gc g g2 := fun k hk i => (b k hk i).trans (a k hk i)
theorem wk_rf_g (hg : wk_gc g g') (u : Int) : wk_rf g' u = wk_rf g u := by
  unfold wk_rf
  rw [hg 120 (by decide), hg 115 (by decide), hg 114 (by decide)]
theorem wk_sS_g (hg : wk_gc g g') (u : Int) (r : List wk_E) : wk_sS g' u r = wk_sS g u r := by
  unfold wk_sS
  rw [hg 119 (by decide), hg 120 (by decide), wk_rf_g hg]
theorem wk_sl_g (hg : wk_gc g g') (u l : Int) : wk_sl g' u l = wk_sl g u l := by
  unfold wk_sl
  rw [hg 119 (by decide)]
theorem wk_sg_g (hg : wk_gc g g') (K : Nat → Int) (u : Int) (r : List wk_E) (c : Nat) : wk_sg g' K u r c = wk_sg g K u r c := by
  unfold wk_sg
  rw [hg 119 (by decide), wk_sS_g hg]
theorem wk_it_g (hg : wk_gc g g') : ∀ (n : Nat) (u : Int), wk_it g' n u = wk_it g n u := by
  intro n
  induction n with
  | zero => intro u; rfl
  | succ n ih =>
    intro u
    unfold wk_it
    rw [hg 124 (by decide), hg 125 (by decide), ih]
theorem wk_alt_g (hg : wk_gc g g') : ∀ (n : Nat) (a : Int), wk_alt g' n a = wk_alt g n a := by
  intro n
  induction n with
  | zero => intro a; rfl
  | succ n ih =>
    intro a
    unfold wk_alt
    rw [hg 128 (by decide), ih]
theorem wk_pf_g (hg : wk_gc g g') (K V : Nat → Int) (s : List wk_E × Nat) : wk_pf g' K V s = wk_pf g K V s := by
  unfold wk_pf
  split
  · rfl
  · simp only [hg 122 (by decide), hg 130 (by decide), hg 129 (by decide), hg 126 (by decide), wk_sg_g hg, wk_it_g hg, wk_alt_g hg]
theorem wk_ul_c {d w a : Int} {r : List wk_E} (hd : ¬ d = 2) : wk_ul ((d, w, a) :: r) = wk_ul r := by
  show (if d = 2 then w else 0) + wk_ul r = wk_ul r
  rw [if_neg hd, Int.zero_add]
theorem wk_ul_o {w a : Int} {r : List wk_E} : wk_ul ((2, w, a) :: r) = w + wk_ul r := by
  show (if (2 : Int) = 2 then w else 0) + wk_ul r = _
  rw [if_pos rfl]
theorem wk_ul_sS (u : Int) (r : List wk_E) : wk_ul (wk_sS g u r) = wk_sl g u (wk_ul r) := by
  unfold wk_sS wk_sl
  by_cases h9 : g 119 u.toNat = 9
  · rw [if_pos h9, if_pos h9, wk_ul_c (by decide), wk_ul_o]
    omega
  · rw [if_neg h9, if_neg h9]
    split
    · rw [wk_ul_c (by decide)]
    · rfl
end GC
/-- what the steps ask for, kept -/
theorem wk_in_fr {μ : Int} {h h' : sm_H} {wr : List (Nat × Nat)} (hi : wk_in μ h) (hS' : ab_Sh sx_sk h') (hF : ab_Fr wr h h') (hw : (ab_in wr 14028 || ab_in wr 14044 || ab_in wr 14034 || ab_in wr 14033 || ab_in wr 14016 || ab_in wr 14032 || ab_in wr 14011 || ab_in wr 19456) = false) (ht : 0 ≤ mi_f h' 14029) (hu : wk_ul (wk_stk h') = mi_f h 14032) : wk_in μ h' := by
  obtain ⟨i1, i2, i3, i4, i5, i6, i7, i8, i9, i10, i11⟩ := hi
  simp only [Bool.or_eq_false_iff] at hw
  obtain ⟨⟨⟨⟨⟨⟨⟨w1, w2⟩, w3⟩, w4⟩, w5⟩, w6⟩, w7⟩, w8⟩ := hw
  have f33 : mi_f h' 14033 = mi_f h 14033 := me_f (c := 14033) hF i1 rfl w4
  have f16 : mi_f h' 14016 = mi_f h 14016 := me_f (c := 14016) hF i1 rfl w5
  have f32 : mi_f h' 14032 = mi_f h 14032 := me_f (c := 14032) hF i1 rfl w6
  refine ⟨hS', (me_f (c := 14028) hF i1 rfl w1).trans i2, i3, (me_f (c := 14044) hF i1 rfl w2).trans i4, by rw [me_f (c := 14034) hF i1 rfl w3]; exact i5, fun e => ?_, ht, by omega, by omega, by omega, ?_⟩
  · rw [f33, me_f (c := 14011) hF i1 rfl w7, me_a (k := 152) hF i1 rfl w8]
    exact i6 e
  · unfold wk_n at i11 ⊢
    rw [f33, f16]
    exact i11
theorem wk_us_g {h h' : sm_H} {zu : Int} (hg : wk_gc (mi_a h) (mi_a h')) (hu : wk_us h zu) : wk_us h' zu := by
  unfold wk_us at hu ⊢
  rw [hg 119 (by decide), hg 120 (by decide), hg 115 (by decide)]
  exact hu
theorem wk_KV2 {h h' : sm_H} {wr : List (Nat × Nat)} (hF : ab_Fr wr h h') (hS : ab_Sh sx_sk h) (hw : (ab_in wr 19840 || ab_in wr 20736) = false) : wk_K 2 h' = wk_K 2 h ∧ wk_V 2 h' = wk_V 2 h := by
  simp only [Bool.or_eq_false_iff] at hw
  refine ⟨funext fun k => ?_, funext fun k => ?_⟩
  · unfold wk_K
    rw [if_pos rfl, if_pos rfl]
    exact me_a (k := 155) hF hS rfl hw.1
  · unfold wk_V
    rw [if_pos rfl, if_pos rfl, me_b (k := 162) hF hS rfl hw.2]
theorem me_has {h : sm_H} {d : Nat} {zs : Int64} (hS : ab_Sh sx_sk h) (h0 : 0 ≤ mi_f h 14033) (h1 : mi_f h 14033 ≤ 160) : me_E d 212 0 [some (.inr (.inr 109)), some (.inr (.inl zs)), none] [] h (fun w h' => ab_Sh sx_sk h' ∧ h' = h ∧ ∃ z, w = some (.inl z) ∧ 0 ≤ z ∧ z ≤ 1) := by
  have b1 := zs.le_toInt
  have b2 := zs.toInt_lt
  have := me_abs (M := (3, 4, sb_212)) (as := [.inr (.inr 109), .inr (.inl zs)]) xo_v_has rfl hS ⟨rfl, ⟨zs, rfl, by show (-9223372036854775808 : Int) ≤ _; omega, by show _ ≤ (9223372036854775807 : Int); omega⟩, trivial⟩ (fun e he => by
    rw [List.mem_singleton.mp he]
    exact me_nvf (c := 14033) hS rfl h0 h1) (by decide)
  refine (me_E.deep (d' := d) this (Nat.zero_le _)).imp (fun w h' hq => ?_)
  obtain ⟨q1, q2, p, pm, pr, -⟩ := hq
  refine ⟨q1, me_nil q2, ?_⟩
  rw [List.mem_singleton.mp pm] at pr
  unfold mi_res at pr
  rw [if_neg (by decide)] at pr
  rcases pr with ⟨-, z, e, z1, z2⟩ | ⟨e, -⟩ | ⟨e, -⟩
  · exact ⟨z, e, z1, z2⟩
  · cases e
  · cases e
def ag_Q (μ zu za : Int) (h : sm_H) (w : Option mi_V) (h' : sm_H) : Prop := w = none ∧ ab_Sh sx_sk h' ∧ ab_Fr wr_W1 h h' ∧ ((mi_f h' 14044 = 1 ∨ (μ = 0 ∧ 0 ≤ mi_f h' 14034)) ∨ (h' = h ∧ (μ ≠ 0 → za ≤ 0)) ∨
  (mi_f h' 14028 = μ ∧ mi_f h' 14044 = 0 ∧ mi_f h' 14034 < 0 ∧ wk_tok μ h' ∧ (μ ≠ 0 → 0 < za) ∧ wk_n μ h ≤ wk_n μ h' ∧ (∀ i : Nat, (i : Int) < wk_n μ h → wk_K μ h' i = wk_K μ h i ∧ wk_V μ h' i = if μ = 0 ∧ i = za.toNat then wk_V μ h i + 1 else wk_V μ h i) ∧ (μ = 2 → mi_f h' 14016 = mi_f h 14016) ∧ mi_f h' 14032 = wk_ul (wk_stk h') ∧ mi_f h' 14032 ≤ 12 ∧ wk_stk h' = wk_sS (mi_a h) zu ((5, zu, if μ = 0 then za else za - 1) :: wk_stk h) ∧ mi_f h 14029 ≤ mi_f h' 14029 ∧ mi_f h' 14029 ≤ mi_f h 14029 + 3 ∧ wk_sg (mi_a h) (wk_K μ h') zu ((5, zu, if μ = 0 then za else za - 1) :: wk_stk h) (wk_n μ h).toNat = some (wk_stk h', (wk_n μ h').toNat)))
section AGA
variable {h : sm_H} {d : Nat} {zu za μ : Int}
/-- .. behind the push -/
theorem ag_go {h1 : sm_H} {zb zm : Int} (hi : wk_in μ h) (hu : wk_us h zu) (ht : mi_f h 14029 ≤ 2985) (ez : zb = if μ = 0 then za else za - 1) (h2 : μ = 2 → ∃ s', wk_sg (mi_a h) (wk_K 2 h) zu ((5, zu, za - 1) :: wk_stk h) (wk_n 2 h).toNat = some s' ∧ s'.2 ≤ 100) (hz : μ ≠ 0 → 0 < za) (g1 : ab_Sh sx_sk h1) (g2 : mi_f h1 14029 = mi_f h 14029 + 1) (est : wk_stk h1 = (5, zu, zb) :: wk_stk h) (g3 : ab_Fr [(14029, 14030), (20864, 20865), (21120, 21121), (21248, 21249), (21376, 21377)] h h1) (hv : ∀ i : Nat, (i : Int) < wk_n μ h → wk_V μ h1 i = if μ = 0 ∧ i = za.toNat then wk_V μ h i + 1 else wk_V μ h i) (ok_zu : mi_in zu) (ok_za : mi_in za) (ok_zm : mi_in zm) : ∃ Q1, me_E (d + 5) 213 0 [some (.inr (.inr 109)), some (.inl zu)] [] h1 Q1 ∧ ∀ w h', (∀ x, w = some x → mi_ok x) → Q1 w h' → me_E (d + 6) 227 77 [some (.inr (.inr 109)), some (.inl zu), some (.inl za), some (.inl zm)] (mi_back w []) h' (ag_Q μ zu za h) := by
  have i1 := hi.1
  have hg : wk_gc (mi_a h) (mi_a h1) := wk_gc_fr g3 i1 rfl
  have hi1 : wk_in μ h1 := wk_in_fr hi g1 g3 rfl (by have := hi.2.2.2.2.2.2.1; omega) (by
    rw [est, wk_ul_c (by decide)]
    exact hi.2.2.2.2.2.2.2.2.2.1)
  have en : wk_n μ h1 = wk_n μ h := by
    unfold wk_n
    rw [me_f (c := 14033) g3 i1 rfl rfl, me_f (c := 14016) g3 i1 rfl rfl]
  refine ⟨_, me_single hi1 (wk_us_g hg hu) (by omega) (fun e => ?_), ?_⟩
  · obtain ⟨s', a1, a2⟩ := h2 e
    refine ⟨s', ?_, a2⟩
    subst e
    rw [wk_sg_g hg, (wk_KV2 g3 i1 rfl).1, est, ez, en, if_neg (by decide)]
    exact a1
  · intro w h' hw hq
    obtain ⟨rfl, q1, q2, q3⟩ := hq
    refine mt_agC q1 ok_zu ok_za ok_zm ?_
    intro h3 r1 r2
    have e3 := me_nil r2
    subst e3
    have hF : ab_Fr wr_W1 h h3 := (g3.wide (fun c hc => ab_swr_ok (by decide) hc)).trans q2
    refine ⟨rfl, q1, hF, ?_⟩
    rcases q3 with q3 | ⟨⟨o1, o2, o3, o4, o5, o6, o7⟩, q4, q5, q6, q7, q8, q9⟩
    · exact Or.inl q3
    · rw [wk_sS_g hg, est, ez] at q6
      rw [wk_sg_g hg, est, ez, en] at q9
      rw [en] at o5 o6
      refine Or.inr (Or.inr ⟨o1, o2, o3, o4, hz, o5, fun i hi' => ?_, fun e => (o7 e).trans (me_f (c := 14016) g3 i1 rfl rfl), ?_, q5, q6, by omega, by omega, q9⟩)
      · obtain ⟨x1, x2⟩ := o6 i hi'
        refine ⟨x1.trans ?_, x2.trans (hv i hi')⟩
        unfold wk_K
        rw [me_a (k := 155) g3 i1 rfl rfl, me_a (k := 158) g3 i1 rfl rfl]
      · rw [q6, wk_ul_sS, q4, wk_sl_g hg, me_f (c := 14032) g3 i1 rfl rfl, wk_ul_c (by decide), hi.2.2.2.2.2.2.2.2.2.1]
theorem me_again (hi : wk_in μ h) (hu : wk_us h zu) (ht : mi_f h 14029 ≤ 2985) (hza : mi_in za) (h0 : μ = 0 → 0 ≤ za ∧ za < 100) (hv2 : μ = 0 → wk_V 0 h za.toNat ≤ 1000000 ∧ 0 ≤ wk_V 0 h za.toNat) (h2 : μ = 2 → 0 < za → ∃ s', wk_sg (mi_a h) (wk_K 2 h) zu ((5, zu, za - 1) :: wk_stk h) (wk_n 2 h).toNat = some s' ∧ s'.2 ≤ 100) : me_E (d + 6) 227 0 [some (.inr (.inr 109)), some (.inl zu), some (.inl za), none] [] h (ag_Q μ zu za h) := by
  obtain ⟨i1, i2, i3, i4, i5, i6, i7, i8, i9, i10, i11⟩ := id hi
  have hu0 := hu.1
  have hu1 := hu.2.1
  have ok : mi_in zu := ⟨by omega, by omega⟩
  have hzb := hza.1
  have hzc := hza.2
  refine mt_agA i1 ok hza ?_ ?_ ?_
  · intro b c1 c2 h1 g1 g2
    have e3 := me_nil g2
    subst e3
    exact ⟨rfl, g1, ab_Fr.refl, Or.inr (Or.inl ⟨rfl, fun _ => c2⟩)⟩
  · intro b1 b2 c1 c2
    have nμ : ¬ μ = 0 := by clear h2 hv2 h0; omega
    refine ⟨by clear h2 hv2 h0; omega, fun h1 g1 g2 a5 a6 a7 g3 => ?_⟩
    refine ag_go hi hu ht (if_neg nμ).symm (fun e => h2 e c2) (fun _ => c2) g1 g2 (wk_push1 i7 g2 a5 a6 a7) (g3.wide (fun c hc => ab_swr_ok (by decide) hc)) (fun i _ => ?_) ok hza ⟨by decide, by decide⟩
    rw [if_neg (fun z => nμ z.1)]
    unfold wk_V
    rw [me_b (k := 162) g3 i1 rfl rfl, me_b (k := 163) g3 i1 rfl rfl]
  · intro b c1
    have eμ : μ = 0 := by clear h2 hv2 h0; omega
    have hh := i6 eμ
    have bt := me_fb (c := 14011) i1 rfl
    have hz0 := h0 eμ
    have hvv := hv2 eμ
    refine ⟨by clear h2 hv2 h0; omega, fun h1 g1 g2 => ?_⟩
    have e3 := me_nil g2
    subst e3
    refine ⟨_, me_has i1 (by clear h2 hv2 h0; omega) (by clear h2 hv2 h0; omega), ?_⟩
    intro w h3 hw hq
    obtain ⟨q1, rfl, z, rfl, z1, z2⟩ := hq
    refine mt_agB q1 ok hza (hw _ rfl) ?_ ?_ ?_
    · intro b1 b2 c2 c3
      exfalso
      clear h2 hv2 h0
      omega
    · intro b1 b2 c2 c3
      refine ⟨by clear h2 hv2 h0; omega, fun h4 g4 g5 a5 a6 a7 a8 g6 => ?_⟩
      refine ag_go hi hu ht (if_pos eμ).symm (fun e => by clear h2 hv2 h0; omega) (fun e => absurd eμ e) g4 g5 (wk_push1 i7 g5 a5 a6 a7) (g6.wide (fun c hc => ab_swr_ok (by decide) hc)) (fun i _ => ?_) ok hza (hw _ rfl)
      subst eμ
      have eV : ∀ (h : sm_H) (i : Nat), wk_V 0 h i = (mx_b h 163 i).toInt := fun h i => by unfold wk_V; rw [if_neg (by decide)]
      rw [eV] at hvv
      rw [eV, eV, a8]
      clear h2 hv2 h0
      by_cases hz : i = za.toNat
      · have e1 : (Int64.ofNat 1).toInt = 1 := rfl
        have e2 : (mx_b h3 163 za.toNat + Int64.ofNat 1).toInt = (mx_b h3 163 za.toNat).toInt + 1 := by
          rw [Int64.toInt_add, e1]
          exact Int.bmod_eq_of_le (by omega) (by omega)
        rw [if_pos hz, if_pos (show (0 : Int) = 0 ∧ i = za.toNat from ⟨rfl, hz⟩), hz, e2]
      · rw [if_neg hz, if_neg (show ¬ ((0 : Int) = 0 ∧ i = za.toNat) from fun e => hz e.2)]
    · intro c2 h4 g4 g5
      have e5 := me_nil g5
      subst e5
      exact ⟨rfl, g4, ab_Fr.refl, Or.inr (Or.inl ⟨rfl, fun e => absurd eμ e⟩)⟩
end AGA
/-! unit -/
/-- what a unit leaves, but for pairs -/
def un_R (μ zu zo : Int) (h h' : sm_H) : Prop := mi_f h' 14028 = μ ∧ mi_f h' 14044 = 0 ∧ mi_f h' 14034 < 0 ∧ wk_tok μ h' ∧ wk_n μ h ≤ wk_n μ h' ∧ wk_ag μ (wk_n μ h) h h' ∧ (μ = 2 → mi_f h' 14016 = mi_f h 14016) ∧ mi_f h' 14032 = wk_ul (wk_stk h') ∧ mi_f h' 14032 ≤ 12 ∧ mi_f h 14029 ≤ mi_f h' 14029 ∧ mi_f h' 14029 ≤ mi_f h 14029 + 3 ∧
  (mi_a h 122 zu.toNat = 1 → wk_stk h' = (5, zu, if μ = 0 then wk_n μ h else wk_V μ h' (wk_n μ h).toNat) :: (2, 0, 0) :: wk_stk h ∧ wk_n μ h' = wk_n μ h + 1 ∧ wk_K μ h' (wk_n μ h).toNat = 5 ∧ 0 ≤ wk_V μ h' (wk_n μ h).toNat ∧ wk_V μ h' (wk_n μ h).toNat ≤ 1000000 ∧ (μ = 0 → wk_V μ h' (wk_n μ h).toNat = 0)) ∧
  (mi_a h 122 zu.toNat ≠ 1 → wk_pf (mi_a h) (wk_K μ h') (wk_V μ h') ((0, zu, zo) :: wk_stk h, (wk_n μ h).toNat) = some (wk_stk h', (wk_n μ h').toNat))
def un_Q (μ zu zo : Int) (h : sm_H) (w : Option mi_V) (h' : sm_H) : Prop := w = none ∧ ab_Sh sx_sk h' ∧ ab_Fr wr_W1 h h' ∧ ((mi_f h' 14044 = 1 ∨ (μ = 0 ∧ 0 ≤ mi_f h' 14034)) ∨ un_R μ zu zo h h')
section UNI
variable {h : sm_H} {d : Nat} {zu zo μ : Int}
/-- behind comes: what the node is -/
theorem un_node {kd zn : Int} {h1 h2 : sm_H} {w : Option mi_V} (hi : wk_in μ h) (hn : mi_in zn) (g1 : ab_Sh sx_sk h1) (g2 : ab_Fr [(14047, 14048)] h h1) (q1 : ab_Sh sx_sk h2) (q2 : ab_Fr [(14016, 14017), (14033, 14034), (14044, 14045), (20224, 20225), (20352, 20353), (20480, 20481), (20864, 20865)] h1 h2) (hz2 : μ = 2 → zn = wk_V 2 h (wk_n 2 h).toNat ∧ wk_K 2 h (wk_n 2 h).toNat = kd)
    (q3 : (μ ≠ 2 ∧ mi_f h2 14044 = 1 ∧ w = some (.inl 0) ∧ mi_f h2 14033 = mi_f h1 14033 ∧ mi_f h2 14016 = mi_f h1 14016) ∨ ((μ = 2 → mi_f h2 14044 = mi_f h1 14044) ∧ (μ ≠ 2 → mi_f h2 14044 = 0) ∧ wk_ev μ kd ((Int32.ofInt zn).toInt64).toInt h1 h2 ∧ w = some (.inl (wk_n μ h1)))) :
    (∃ z, w = some (.inl z)) ∧ mi_f h2 14029 = mi_f h 14029 ∧ mi_f h2 14032 = mi_f h 14032 ∧ mi_f h2 14034 = mi_f h 14034 ∧ mi_f h2 14028 = mi_f h 14028 ∧ wk_stk h2 = wk_stk h ∧ wk_gc (mi_a h) (mi_a h2) ∧ ab_Fr wr_W1 h h2 ∧ wk_tok μ h2 ∧ (μ = 2 → mi_f h2 14016 = mi_f h 14016) ∧ (μ ≠ 2 ∧ mi_f h2 14044 = 1 ∨ (mi_f h2 14044 = 0 ∧ wk_n μ h2 = wk_n μ h + 1 ∧ wk_ag μ (wk_n μ h) h h2 ∧ wk_K μ h2 (wk_n μ h).toNat = kd ∧ wk_V μ h2 (wk_n μ h).toNat = zn ∧ w = some (.inl (wk_n μ h)))) := by
  obtain ⟨i1, i2, i3, i4, i5, i6, i7, i8, i9, i10, i11⟩ := hi
  have ez : ((Int32.ofInt zn).toInt64).toInt = zn := by rw [Int32.toInt_toInt64, mi_ti hn]
  have f33 : mi_f h1 14033 = mi_f h 14033 := me_f (c := 14033) g2 i1 rfl rfl
  have f16 : mi_f h1 14016 = mi_f h 14016 := me_f (c := 14016) g2 i1 rfl rfl
  have nA : wk_n μ h1 = wk_n μ h := by unfold wk_n; rw [f33, f16]
  have hF : ab_Fr wr_W1 h h2 := (g2.wide (fun c hc => ab_swr_ok (by decide) hc)).trans (q2.wide (fun c hc => ab_swr_ok (by decide) hc))
  have e33 : μ = 0 → mi_f h2 14033 = mi_f h 14033 := fun e => by
    rcases q3 with q3 | q3
    · rw [q3.2.2.2.1, f33]
    · rw [(q3.2.2.1.2.2.1 (by omega)).2.2, f33]
  refine ⟨?_, (me_f (c := 14029) q2 g1 rfl rfl).trans (me_f (c := 14029) g2 i1 rfl rfl), (me_f (c := 14032) q2 g1 rfl rfl).trans (me_f (c := 14032) g2 i1 rfl rfl), (me_f (c := 14034) q2 g1 rfl rfl).trans (me_f (c := 14034) g2 i1 rfl rfl), (me_f (c := 14028) q2 g1 rfl rfl).trans (me_f (c := 14028) g2 i1 rfl rfl), (wk_stk_fr q2 g1 rfl).trans (wk_stk_fr g2 i1 rfl), (wk_gc_fr g2 i1 rfl).trans (wk_gc_fr q2 g1 rfl), hF, fun e => ?_, fun e => ?_, ?_⟩
  · rcases q3 with q3 | q3
    · exact ⟨_, q3.2.2.1⟩
    · exact ⟨_, q3.2.2.2⟩
  · rw [e33 e, me_f (c := 14011) hF i1 rfl rfl, me_a (k := 152) hF i1 rfl rfl]
    exact i6 e
  · rcases q3 with q3 | q3
    · exact absurd e q3.1
    · rw [q3.2.2.1.2.2.2 e, f16]
  · rcases q3 with q3 | ⟨p1, p2, p3, p4⟩
    · exact Or.inl ⟨q3.1, q3.2.1⟩
    · obtain ⟨x1, x2, x3, -⟩ := p3
      rw [nA] at x1 x2 x3 p4
      have agA : wk_ag μ (wk_n μ h) h h1 := wk_ag_fr g2 i1 rfl
      refine Or.inr ⟨?_, x1, agA.trans x2 (Int.le_refl _), ?_, ?_, p4⟩
      · by_cases e : μ = 2
        · rw [p1 e, me_f (c := 14044) g2 i1 rfl rfl]
          exact i4
        · exact p2 e
      · by_cases e : μ = 2
        · subst e
          rw [wk_K2 hF i1]
          exact (hz2 rfl).2
        · exact (x3 e).1
      · by_cases e : μ = 2
        · subst e
          rw [(wk_KV2 hF i1 rfl).2]
          exact (hz2 rfl).1.symm
        · rw [(x3 e).2.1, ez]
theorem un83 {zn : Int} {h1 : sm_H} (hi : wk_in μ h) (hu0 : 0 ≤ zu) (hu1 : zu < 60) (ht : mi_f h 14029 ≤ 2985) (hw : mi_a h 122 zu.toNat = 1) (oo : mi_in zo) (hn0 : 0 ≤ zn) (hn1 : zn ≤ 1000000) (hz0 : μ = 0 → zn = 0) (hz2 : μ = 2 → zn = wk_V 2 h (wk_n 2 h).toNat ∧ wk_K 2 h (wk_n 2 h).toNat = 5) (hl2 : μ = 2 → wk_n 2 h ≤ 100) (g1 : ab_Sh sx_sk h1) (g2 : ab_Fr [(14047, 14048)] h h1) : me_E (d + 6) 210 83 [some (.inr (.inr 109)), some (.inl zu), some (.inl zo), none, none] [.inl zn] h1 (un_Q μ zu zo h) := by
  have hi' := hi
  obtain ⟨i1, i2, i3, i4, i5, i6, i7, i8, i9, i10, i11⟩ := hi'
  have ok : mi_in zu := ⟨by omega, by omega⟩
  have on : mi_in zn := ⟨by omega, by omega⟩
  refine mt_unD g1 ok oo on ?_
  intro h2 p1 p2
  have e2 := me_nil p2
  subst e2
  refine ⟨_, me_comes μ g1 ⟨by decide, by decide⟩ ((me_f (c := 14028) g2 i1 rfl rfl).trans i2) (fun e => ?_), ?_⟩
  · have := hl2 e
    unfold wk_n at this
    rw [if_pos rfl] at this
    rw [me_f (c := 14033) g2 i1 rfl rfl]
    omega
  · intro w h3 hw3 hq
    obtain ⟨q1, q2, q3⟩ := hq
    obtain ⟨⟨z, rfl⟩, n29, n32, n34, n28, nst, ngc, nF, ntok, nmk, nn⟩ := un_node hi on g1 g2 q1 q2 hz2 q3
    have fin : ∀ {a : Int} {h4 : sm_H}, (a = if μ = 0 then z else zn) → ab_Sh sx_sk h4 → mi_f h4 14029 = mi_f h3 14029 + 1 + 1 → (∀ i, mi_a h4 165 i = if i = Int.toNat (mi_f h3 14029 + 1) then 5 else if i = Int.toNat (mi_f h3 14029) then 2 else mi_a h3 165 i) → (∀ i, mi_a h4 166 i = if i = Int.toNat (mi_f h3 14029 + 1) then zu else if i = Int.toNat (mi_f h3 14029) then 0 else mi_a h3 166 i) → (∀ i, mi_a h4 167 i = if i = Int.toNat (mi_f h3 14029 + 1) then a else if i = Int.toNat (mi_f h3 14029) then 0 else mi_a h3 167 i) → ab_Fr [(14029, 14030), (14031, 14032), (21120, 21121), (21248, 21249), (21376, 21377)] h3 h4 → un_Q μ zu zo h none h4 := by
      intro a h4 ea r1 r2 a5 a6 a7 r3
      have hF : ab_Fr wr_W1 h h4 := nF.trans (r3.wide (fun c hc => ab_swr_ok (by decide) hc))
      refine ⟨rfl, r1, hF, ?_⟩
      have e44 : mi_f h4 14044 = mi_f h3 14044 := me_f (c := 14044) r3 q1 rfl rfl
      rcases nn with ⟨-, nn⟩ | ⟨m1, m2, m3, m4, m5, m6⟩
      · exact Or.inl (Or.inl (by rw [e44]; exact nn))
      · have est := wk_push2 (by omega) r2 a5 a6 a7
        rw [nst] at est
        have hne : wk_ne μ h3 h4 := wk_ne_fr r3 q1 rfl
        have en : wk_n μ h4 = wk_n μ h3 := wk_ne_n hne
        have hlt : ((wk_n μ h).toNat : Int) < wk_n μ h3 := by omega
        obtain ⟨y1, y2⟩ := hne.2.2 _ hlt
        have e32 : mi_f h4 14032 = mi_f h3 14032 := me_f (c := 14032) r3 q1 rfl rfl
        refine Or.inr ⟨by rw [me_f (c := 14028) r3 q1 rfl rfl, n28]; exact i2, by rw [e44]; exact m1, by rw [me_f (c := 14034) r3 q1 rfl rfl, n34]; exact i5, fun e => ?_, by omega, m3.trans hne.2.2 (by omega), fun e => hne.2.1.trans (nmk e), ?_, by omega, by omega, by omega, fun _ => ?_, fun e => absurd hw e⟩
        · rw [hne.1, me_f (c := 14011) r3 q1 rfl rfl, me_a (k := 152) r3 q1 rfl rfl]
          exact ntok e
        · rw [est, wk_ul_c (by decide), wk_ul_o]
          omega
        · rw [y1, y2, m4, m5]
          refine ⟨?_, by omega, rfl, hn0, hn1, hz0⟩
          rw [est, ea]
          cases m6
          rfl
    refine mt_unE q1 ok oo on (hw3 _ rfl) ?_ ?_
    · intro b1 b2 c1
      refine ⟨by omega, fun h4 r1 r2 r3 a5 a6 a7 r4 => fin ?_ r1 r2 a5 a6 a7 r4⟩
      rw [if_neg (by omega)]
    · intro b1 b2 c1
      refine ⟨by omega, fun h4 r1 r2 r3 a5 a6 a7 r4 => fin ?_ r1 r2 a5 a6 a7 r4⟩
      rw [if_pos (by omega)]
end UNI
/-! unit, the rest -/
section UNJ
variable {h : sm_H} {d : Nat} {zu zo μ : Int}
theorem un208 {zn : Int} {h1 : sm_H} (hi : wk_in μ h) (hu : wk_us h zu) (ht : mi_f h 14029 ≤ 2985) (hw : mi_a h 122 zu.toNat = 2) (oo : mi_in zo) (hn0 : 0 ≤ zn) (hn1 : zn ≤ 1000000) (hz2 : μ = 2 → zn = wk_V 2 h (wk_n 2 h).toNat ∧ wk_K 2 h (wk_n 2 h).toNat = 6) (hl2 : μ = 2 → wk_n 2 h ≤ 100) (h2 : μ = 2 → 0 < zn → ∃ s', wk_sg (mi_a h) (wk_K 2 h) zu ((2, 0, 0) :: wk_stk h) ((wk_n 2 h).toNat + 1) = some s' ∧ s'.2 ≤ 100) (g1 : ab_Sh sx_sk h1) (g2 : ab_Fr [(14047, 14048)] h h1) : me_E (d + 6) 210 208 [some (.inr (.inr 109)), some (.inl zu), some (.inl zo), none, none] [.inl zn] h1 (un_Q μ zu zo h) := by
  have hi' := hi
  obtain ⟨i1, i2, i3, i4, i5, i6, i7, i8, i9, i10, i11⟩ := hi'
  have hu0 := hu.1
  have hu1 := hu.2.1
  have ok : mi_in zu := ⟨by omega, by omega⟩
  have on : mi_in zn := ⟨by omega, by omega⟩
  have w1 : ¬ mi_a h 122 zu.toNat = 1 := by omega
  refine mt_unH g1 ok oo on ?_
  intro h2' p1 p2
  have e2 := me_nil p2
  subst e2
  refine ⟨_, me_comes μ g1 ⟨by decide, by decide⟩ ((me_f (c := 14028) g2 i1 rfl rfl).trans i2) (fun e => ?_), ?_⟩
  · have := hl2 e
    unfold wk_n at this
    rw [if_pos rfl] at this
    rw [me_f (c := 14033) g2 i1 rfl rfl]
    clear h2
    omega
  · intro w h3 hw3 hq
    obtain ⟨q1, q2, q3⟩ := hq
    obtain ⟨⟨z, rfl⟩, n29, n32, n34, n28, nst, ngc, nF, ntok, nmk, nn⟩ := un_node hi on g1 g2 q1 q2 hz2 q3
    refine mt_unI q1 ok oo on (hw3 _ rfl) ?_ ?_ ?_
    · intro b1 c1
      refine ⟨by clear h2; omega, fun h4 r1 r2 r3 a5 a6 a7 r4 => ?_⟩
      have hF : ab_Fr wr_W1 h h4 := nF.trans (r4.wide (fun c hc => ab_swr_ok (by decide) hc))
      refine ⟨rfl, r1, hF, ?_⟩
      have e44 : mi_f h4 14044 = mi_f h3 14044 := me_f (c := 14044) r4 q1 rfl rfl
      rcases nn with ⟨-, nn⟩ | ⟨m1, m2, m3, m4, m5, m6⟩
      · exact Or.inl (Or.inl (by rw [e44]; exact nn))
      · have est := wk_push1 (by omega) r2 a5 a6 a7
        rw [nst] at est
        have hne : wk_ne μ h3 h4 := wk_ne_fr r4 q1 rfl
        have en : wk_n μ h4 = wk_n μ h3 := wk_ne_n hne
        have hlt : ((wk_n μ h).toNat : Int) < wk_n μ h3 := by clear h2; omega
        obtain ⟨y1, y2⟩ := hne.2.2 _ hlt
        have e32 : mi_f h4 14032 = mi_f h3 14032 := me_f (c := 14032) r4 q1 rfl rfl
        refine Or.inr ⟨by rw [me_f (c := 14028) r4 q1 rfl rfl, n28]; exact i2, by rw [e44]; exact m1, by rw [me_f (c := 14034) r4 q1 rfl rfl, n34]; exact i5, fun e => ?_, by clear h2; omega, m3.trans hne.2.2 (by clear h2; omega), fun e => hne.2.1.trans (nmk e), ?_, by clear h2; omega, by clear h2; omega, by clear h2; omega, fun e => absurd e w1, fun _ => ?_⟩
        · rw [hne.1, me_f (c := 14011) r4 q1 rfl rfl, me_a (k := 152) r4 q1 rfl rfl]
          exact ntok e
        · rw [est, wk_ul_o]
          clear h2
          omega
        · have e1 : (wk_n μ h4).toNat = (wk_n μ h).toNat + 1 := by clear h2; omega
          have k6 : wk_K μ h4 (wk_n μ h).toNat = 6 := y1.trans m4
          have kv : wk_V μ h4 (wk_n μ h).toNat = zn := y2.trans m5
          unfold wk_pf
          dsimp only
          rw [if_pos rfl, if_neg w1, if_pos hw, if_pos ⟨k6, by rw [kv]; exact hn0, by rw [kv]; exact hn1⟩, if_neg (by rw [kv]; clear h2; omega), est, e1]
    · intro b1 b2 c1 c2
      refine ⟨by clear h2; omega, fun h4 r1 r2 r3 a5 a6 a7 r4 => ?_⟩
      have hF : ab_Fr wr_W1 h h4 := nF.trans (r4.wide (fun c hc => ab_swr_ok (by decide) hc))
      refine ⟨rfl, r1, hF, Or.inl (Or.inl ?_)⟩
      rw [me_f (c := 14044) r4 q1 rfl rfl]
      clear h2
      omega
    · intro b1 b2 c1 c2
      refine ⟨by clear h2; omega, fun h4 r1 r2 r3 a5 a6 a7 r4 => ?_⟩
      rcases nn with ⟨-, nn⟩ | ⟨m1, m2, m3, m4, m5, m6⟩
      · exfalso
        clear h2
        omega
      · have hF : ab_Fr wr_W1 h h4 := nF.trans (r4.wide (fun c hc => ab_swr_ok (by decide) hc))
        have est := wk_push1 (by omega) r2 a5 a6 a7
        rw [nst] at est
        have hne : wk_ne μ h3 h4 := wk_ne_fr r4 q1 rfl
        have en : wk_n μ h4 = wk_n μ h + 1 := by rw [wk_ne_n hne]; exact m2
        have hg : wk_gc (mi_a h) (mi_a h4) := ngc.trans (wk_gc_fr r4 q1 rfl)
        have e32 : mi_f h4 14032 = mi_f h 14032 := (me_f (c := 14032) r4 q1 rfl rfl).trans n32
        have hi4 : wk_in μ h4 := by
          refine ⟨r1, by rw [me_f (c := 14028) r4 q1 rfl rfl, n28]; exact i2, i3, by rw [me_f (c := 14044) r4 q1 rfl rfl]; exact m1, by rw [me_f (c := 14034) r4 q1 rfl rfl, n34]; exact i5, fun e => ?_, by clear h2; omega, by clear h2; omega, by clear h2; omega, ?_, by clear h2; omega⟩
          · rw [hne.1, me_f (c := 14011) r4 q1 rfl rfl, me_a (k := 152) r4 q1 rfl rfl]
            exact ntok e
          · rw [est, wk_ul_o]
            clear h2
            omega
        have hag4 : wk_ag μ (wk_n μ h) h h4 := m3.trans hne.2.2 (by clear h2; omega)
        refine ⟨_, me_single (d := d) hi4 (wk_us_g hg hu) (by clear h2; omega) (fun e => ?_), ?_⟩
        · obtain ⟨s', x1, x2⟩ := h2 e c1
          refine ⟨s', ?_, x2⟩
          subst e
          have e5 : (wk_n 2 h4).toNat = (wk_n 2 h).toNat + 1 := by clear h2; omega
          rw [wk_sg_g hg, (wk_KV2 hF i1 rfl).1, est, e5]
          exact x1
        · intro w h5 hw5 hq5
          obtain ⟨rfl, t1, t2, t3⟩ := hq5
          refine mt_unJ t1 ok oo on ?_
          intro h6 u1 u2
          have e6 := me_nil u2
          subst e6
          refine ⟨rfl, t1, hF.trans t2, ?_⟩
          rcases t3 with t3 | ⟨⟨o1, o2, o3, o4, o5, o6, o7⟩, s1, s2, s3, s4, s5, s6⟩
          · exact Or.inl t3
          · have hlt : ((wk_n μ h).toNat : Int) < wk_n μ h4 := by clear h2; omega
            have hlt3 : ((wk_n μ h).toNat : Int) < wk_n μ h3 := by clear h2; omega
            obtain ⟨y1, y2⟩ := o6 _ hlt
            obtain ⟨y3, y4⟩ := hne.2.2 _ hlt3
            have k6 : wk_K μ h6 (wk_n μ h).toNat = 6 := y1.trans (y3.trans m4)
            have kv : wk_V μ h6 (wk_n μ h).toNat = zn := y2.trans (y4.trans m5)
            refine Or.inr ⟨o1, o2, o3, o4, by clear h2; omega, hag4.trans o6 (by clear h2; omega), fun e => (o7 e).trans (hne.2.1.trans (nmk e)), ?_, s2, by clear h2; omega, by clear h2; omega, fun e => absurd e w1, fun _ => ?_⟩
            · rw [s3, wk_ul_sS, s1, hi4.2.2.2.2.2.2.2.2.2.1]
            · have e5 : (wk_n μ h4).toNat = (wk_n μ h).toNat + 1 := by clear h2; omega
              rw [wk_sg_g hg, est, e5] at s6
              unfold wk_pf
              dsimp only
              rw [if_pos rfl, if_neg w1, if_pos hw, if_pos ⟨k6, by rw [kv]; exact hn0, by rw [kv]; exact hn1⟩, if_pos (by rw [kv]; exact c1)]
              exact s6
/-- from where pairs have been looked at -/
theorem un24 (hi : wk_in μ h) (hu : wk_us h zu) (ht : mi_f h 14029 ≤ 2985) (oo : mi_in zo) (h2 : μ = 2 → ∃ s', wk_pf (mi_a h) (wk_K 2 h) (wk_V 2 h) ((0, zu, zo) :: wk_stk h, (wk_n 2 h).toNat) = some s' ∧ s'.2 ≤ 100) : me_E (d + 6) 210 24 [some (.inr (.inr 109)), some (.inl zu), some (.inl zo), none, none] [] h (un_Q μ zu zo h) := by
  have hi' := hi
  obtain ⟨i1, i2, i3, i4, i5, i6, i7, i8, i9, i10, i11⟩ := hi'
  have hu0 := hu.1
  have hu1 := hu.2.1
  have ok : mi_in zu := ⟨by omega, by omega⟩
  have en2 : wk_n 2 h = mi_f h 14033 := by unfold wk_n; rw [if_pos rfl]
  have eV2 : ∀ k, wk_V 2 h k = (mx_b h 162 k).toInt := fun k => by unfold wk_V; rw [if_pos rfl]
  -- what the replay says, by the way of repeating
  have r1 : μ = 2 → mi_a h 122 zu.toNat = 1 → wk_K 2 h (wk_n 2 h).toNat = 5 ∧ 0 ≤ wk_V 2 h (wk_n 2 h).toNat ∧ wk_V 2 h (wk_n 2 h).toNat ≤ 1000000 ∧ (wk_n 2 h).toNat < 100 := fun e ew => by
    obtain ⟨s', x1, x2⟩ := h2 e
    unfold wk_pf at x1
    dsimp only at x1
    rw [if_pos rfl, if_pos ew] at x1
    split at x1
    · next hk => cases x1; exact ⟨hk.1, hk.2.1, hk.2.2, x2⟩
    · cases x1
  have r2 : μ = 2 → mi_a h 122 zu.toNat = 2 → (wk_K 2 h (wk_n 2 h).toNat = 6 ∧ 0 ≤ wk_V 2 h (wk_n 2 h).toNat ∧ wk_V 2 h (wk_n 2 h).toNat ≤ 1000000 ∧ (wk_n 2 h).toNat < 100) ∧ (0 < wk_V 2 h (wk_n 2 h).toNat → ∃ s', wk_sg (mi_a h) (wk_K 2 h) zu ((2, 0, 0) :: wk_stk h) ((wk_n 2 h).toNat + 1) = some s' ∧ s'.2 ≤ 100) := fun e ew => by
    obtain ⟨s', x1, x2⟩ := h2 e
    unfold wk_pf at x1
    dsimp only at x1
    rw [if_pos rfl, if_neg (by omega), if_pos ew] at x1
    split at x1
    · next hk =>
      split at x1
      · next hv =>
        refine ⟨⟨hk.1, hk.2.1, hk.2.2, ?_⟩, fun _ => ⟨s', x1, x2⟩⟩
        have := wk_sg_mono x1
        omega
      · next hv =>
        cases x1
        exact ⟨⟨hk.1, hk.2.1, hk.2.2, x2⟩, fun z => absurd z hv⟩
    · cases x1
  have r0 : μ = 2 → mi_a h 122 zu.toNat ≠ 1 → mi_a h 122 zu.toNat ≠ 2 → ∃ s', wk_sg (mi_a h) (wk_K 2 h) zu (wk_stk h) (wk_n 2 h).toNat = some s' ∧ s'.2 ≤ 100 := fun e e1 e2 => by
    obtain ⟨s', x1, x2⟩ := h2 e
    unfold wk_pf at x1
    dsimp only at x1
    rw [if_pos rfl, if_neg e1, if_neg e2] at x1
    exact ⟨s', x1, x2⟩
  clear h2
  have conv : ∀ k, 0 ≤ (mx_b h 162 k).toInt → (mx_b h 162 k).toInt ≤ 1000000 → (mx_b h 162 k).toInt32.toInt = (mx_b h 162 k).toInt := fun k k0 k1 => by
    rw [Int64.toInt_toInt32]
    exact Int.bmod_eq_of_le (by omega) (by omega)
  have Fnil : ∀ {h1 : sm_H}, ab_Fr [] h h1 → ab_Fr [(14047, 14048)] h h1 := fun g => g.wide (fun c hc => by cases hc)
  refine mt_unB i1 ok oo ?_ ?_ ?_ ?_ ?_ ?_ ?_ ?_ ?_
  · intro c1 c2
    refine ⟨by omega, fun h1 g1 g2 => ?_⟩
    have e3 := me_nil g2
    subst e3
    refine ⟨_, me_single (d := d) hi hu (by omega) (fun e => r0 e c1 c2), ?_⟩
    intro w h3 hw3 hq
    obtain ⟨rfl, t1, t2, t3⟩ := hq
    refine mt_unK t1 ok oo ?_
    intro h6 u1 u2
    have e6 := me_nil u2
    subst e6
    refine ⟨rfl, t1, t2, ?_⟩
    rcases t3 with t3 | ⟨⟨o1, o2, o3, o4, o5, o6, o7⟩, s1, s2, s3, s4, s5, s6⟩
    · exact Or.inl t3
    · refine Or.inr ⟨o1, o2, o3, o4, o5, o6, o7, ?_, s2, s4, by omega, fun e => absurd e c1, fun _ => ?_⟩
      · rw [s3, wk_ul_sS, s1, i10]
      · unfold wk_pf
        dsimp only
        rw [if_pos rfl, if_neg c1, if_neg c2]
        exact s6
  · intro b c1 c2 c3 c4
    have eμ : μ = 0 := by clear r0 r1 r2; omega
    have hh := i6 eμ
    have bt := me_fb (c := 14011) i1 rfl
    refine ⟨by omega, fun h1 g1 g2 => ?_⟩
    have e3 := me_nil g2
    subst e3
    refine ⟨_, me_has i1 (by omega) (by omega), ?_⟩
    intro w h3 hw3 hq
    obtain ⟨q1, rfl, z, rfl, z1, z2⟩ := hq
    refine mt_unG q1 ok oo (hw3 _ rfl) ?_ ?_
    · intro c5 h4 g4 g5
      exact un208 hi hu ht c2 oo (by decide) (by decide) (fun e => by omega) (fun e => by omega) (fun e => by omega) g4 (Fnil g5)
    · intro c5 h4 g4 g5
      exact un208 hi hu ht c2 oo (by decide) (by decide) (fun e => by omega) (fun e => by omega) (fun e => by omega) g4 (Fnil g5)
  · intro b1 b2 c1 c2 c3 c4
    have eμ : μ = 2 := by omega
    obtain ⟨⟨k1, k2, k3, k4⟩, k5⟩ := r2 eμ c2
    rw [eμ] at i11
    rw [en2] at k4 i11
    rw [eV2, en2] at k2 k3
    have ev := conv _ k2 k3
    refine ⟨by omega, fun h1 g1 g2 => ?_⟩
    rw [ev]
    refine un208 hi hu ht c2 oo k2 k3 (fun _ => ⟨by rw [eV2, en2], k1⟩) (fun _ => by rw [en2]; omega) (fun _ hp => k5 (by rw [eV2, en2]; exact hp)) g1 (Fnil g2)
  · intro b1 b2 c1 c2 c3 c4
    refine ⟨by omega, fun h1 g1 g2 => ?_⟩
    have e3 := me_nil g2
    subst e3
    refine ⟨_, me_draw g1 (by decide) (by decide), ?_⟩
    intro w h3 hw3 hq
    obtain ⟨q1, q2, z, rfl, z1, z2⟩ := hq
    refine mt_unF q1 ok oo (hw3 _ rfl) ?_
    intro h4 g4 g5
    exact un208 hi hu ht c2 oo z1 (by omega) (fun e => by omega) (fun e => by omega) (fun e => by omega) g4 (q2.trans (g5.wide (fun c hc => by cases hc)))
  · intro b1 b2 c1 c2 c3 c4
    refine ⟨by omega, fun h1 g1 g2 => ?_⟩
    exact un208 hi hu ht c2 oo (by decide) (by decide) (fun e => by omega) (fun e => by omega) (fun e => by omega) g1 (Fnil g2)
  · intro b1 c1 c2 c3
    refine ⟨by omega, fun h1 g1 g2 => ?_⟩
    exact un83 hi hu0 hu1 ht c1 oo (by decide) (by decide) (fun _ => rfl) (fun e => by omega) (fun e => by omega) g1 (Fnil g2)
  · intro b1 b2 c1 c2 c3
    have eμ : μ = 2 := by omega
    obtain ⟨k1, k2, k3, k4⟩ := r1 eμ c1
    rw [eμ] at i11
    rw [en2] at k4 i11
    rw [eV2, en2] at k2 k3
    have ev := conv _ k2 k3
    refine ⟨by omega, fun h1 g1 g2 => ?_⟩
    rw [ev]
    exact un83 hi hu0 hu1 ht c1 oo k2 k3 (fun e => by omega) (fun _ => ⟨by rw [eV2, en2], k1⟩) (fun _ => by rw [en2]; omega) g1 (Fnil g2)
  · intro b1 b2 c1 c2 c3
    refine ⟨by omega, fun h1 g1 g2 => ?_⟩
    have e3 := me_nil g2
    subst e3
    refine ⟨_, me_draw g1 (by decide) (by decide), ?_⟩
    intro w h3 hw3 hq
    obtain ⟨q1, q2, z, rfl, z1, z2⟩ := hq
    refine mt_unC q1 ok oo (hw3 _ rfl) ?_
    intro h4 g4 g5
    exact un83 hi hu0 hu1 ht c1 oo z1 (by omega) (fun e => by omega) (fun e => by omega) (fun e => by omega) g4 (q2.trans (g5.wide (fun c hc => by cases hc)))
  · intro b1 b2 c1 c2 c3
    refine ⟨by omega, fun h1 g1 g2 => ?_⟩
    exact un83 hi hu0 hu1 ht c1 oo (by decide) (by decide) (fun e => rfl) (fun e => by omega) (fun e => by omega) g1 (Fnil g2)
end UNJ
/-! segments: line, directed, lowest -/
set_option maxRecDepth 20000 in
theorem mp_liA_0 (h : sm_H) (d : Nat) (zf : Int) : mi_path [(197, (4, 1, sb_197))] sx_sk h 7 [] (d, 197, 0, [some (.inr (.inr 109)), some (.inl (zf)), none, none], [], [], []) = some ((d, 197, 9, [some (.inr (.inr 109)), some (.inl (zf)), some (.inl ((0 : Int))), some (.inl (mi_a h 126 (Int.toNat zf)))], [], [], []), [0 ≤ zf ∧ zf < 80]) := rfl
theorem mi_tab_liA_0 : ∀ e ∈ ([(197, (4, 1, sb_197))] : mi_T), sc_P e.1 = some e.2 := mi_tb mi_P197 (mi_tb_e)
set_option maxRecDepth 20000 in
theorem ms_liA_0 {h : sm_H} {d : Nat} {Q : Option mi_V → sm_H → Prop} {zf : Int} (hS : ab_Sh sx_sk h) (ok_zf : mi_in zf) (ho : (0 ≤ zf ∧ zf < 80)) (kon : ∀ h1, me_W [] h h1 → me_E (d) 197 9 [some (.inr (.inr 109)), some (.inl (zf)), some (.inl ((0 : Int))), some (.inl (mi_a h 126 (Int.toNat zf)))] [] h1 Q) : me_E (d) 197 0 [some (.inr (.inr 109)), some (.inl (zf)), none, none] [] h Q := me_seg (mp_liA_0 h d zf) (mi_tab_liA_0) hS (mi_okL_c (trivial) (mi_okL_c (ok_zf) (mi_okL_n (mi_okL_n (mi_okL_e))))) (mi_okS_e) (mi_al (ho) (mi_al_e)) (fun h1 W _ hst => kon h1 W)
set_option maxRecDepth 20000 in
theorem mt_liA {h : sm_H} {d : Nat} {Q : Option mi_V → sm_H → Prop} {zf : Int} (hS : ab_Sh sx_sk h) (ok_zf : mi_in zf) (k0 : ((0 ≤ zf ∧ zf < 80)) ∧ (∀ h1, ab_Sh sx_sk h1 → ab_Fr [] h h1 → me_E (d) 197 9 [some (.inr (.inr 109)), some (.inl (zf)), some (.inl ((0 : Int))), some (.inl (mi_a h 126 (Int.toNat zf)))] [] h1 Q)) : me_E (d) 197 0 [some (.inr (.inr 109)), some (.inl (zf)), none, none] [] h Q := ms_liA_0 hS ok_zf ((k0).1) (fun h1 W => (k0).2 h1 W.1 (W.2.2.2.2.2 _ rfl))
set_option maxRecDepth 20000 in
theorem mp_liB_0 (h : sm_H) (d : Nat) (zf zn zu : Int) : mi_path [(197, (4, 1, sb_197))] sx_sk h 3 [1] (d, 197, 9, [some (.inr (.inr 109)), some (.inl (zf)), some (.inl (zn)), some (.inl (zu))], [], [], []) = some ((d, 197, 58, [some (.inr (.inr 109)), some (.inl (zf)), some (.inl (zn)), some (.inl (zu))], [.inl (zn)], [], []), [zu < ((0 : Int))]) := rfl
theorem mi_tab_liB_0 : ∀ e ∈ ([(197, (4, 1, sb_197))] : mi_T), sc_P e.1 = some e.2 := mi_tb mi_P197 (mi_tb_e)
set_option maxRecDepth 20000 in
theorem ms_liB_0 {h : sm_H} {d : Nat} {Q : Option mi_V → sm_H → Prop} {zf zn zu : Int} (hS : ab_Sh sx_sk h) (ok_zf : mi_in zf) (ok_zn : mi_in zn) (ok_zu : mi_in zu) (ho : (zu < ((0 : Int)))) (kon : ∀ h1, me_W [] h h1 → Q (some (.inl (zn))) h1) : me_E (d) 197 9 [some (.inr (.inr 109)), some (.inl (zf)), some (.inl (zn)), some (.inl (zu))] [] h Q := me_seg (mp_liB_0 h d zf zn zu) (mi_tab_liB_0) hS (mi_okL_c (trivial) (mi_okL_c (ok_zf) (mi_okL_c (ok_zn) (mi_okL_c (ok_zu) (mi_okL_e))))) (mi_okS_e) (mi_al (ho) (mi_al_e)) (fun h1 W _ hst => me_ret (M := (4, 1, sb_197)) rfl rfl rfl hst (mi_al_e) (kon h1 W))
set_option maxRecDepth 20000 in
theorem mp_liB_1 (h : sm_H) (d : Nat) (zf zn zu : Int) : mi_path [(197, (4, 1, sb_197))] sx_sk h 19 [0, 1] (d, 197, 9, [some (.inr (.inr 109)), some (.inl (zf)), some (.inl (zn)), some (.inl (zu))], [], [], []) = some ((d, 197, 9, [some (.inr (.inr 109)), some (.inl (zf)), some (.inl (zn + 1)), some (.inl (mi_a h 125 (Int.toNat zu)))], [], [.inr (.inr (.inl (145, Int.toNat zn, zu)))], []), [((0 : Int)) ≤ zu, -2147483648 ≤ zn + 1 ∧ zn + 1 ≤ 2147483647, 0 ≤ zn ∧ zn < 100, 0 ≤ zu ∧ zu ≤ 99, 0 ≤ zu ∧ zu < 60, (mi_a h 124 (Int.toNat zu)) < ((0 : Int)), 0 ≤ zu ∧ zu < 60]) := rfl
theorem mi_tab_liB_1 : ∀ e ∈ ([(197, (4, 1, sb_197))] : mi_T), sc_P e.1 = some e.2 := mi_tb mi_P197 (mi_tb_e)
set_option maxRecDepth 20000 in
theorem ms_liB_1 {h : sm_H} {d : Nat} {Q : Option mi_V → sm_H → Prop} {zf zn zu : Int} (hS : ab_Sh sx_sk h) (ok_zf : mi_in zf) (ok_zn : mi_in zn) (ok_zu : mi_in zu) (ho : (((0 : Int)) ≤ zu) ∧ (-2147483648 ≤ zn + 1 ∧ zn + 1 ≤ 2147483647) ∧ (0 ≤ zn ∧ zn < 100) ∧ (0 ≤ zu ∧ zu ≤ 99) ∧ (0 ≤ zu ∧ zu < 60) ∧ ((mi_a h 124 (Int.toNat zu)) < ((0 : Int))) ∧ (0 ≤ zu ∧ zu < 60)) (kon : ∀ h1, me_W [.inr (.inr (.inl (145, Int.toNat zn, zu)))] h h1 → me_E (d) 197 9 [some (.inr (.inr 109)), some (.inl (zf)), some (.inl (zn + 1)), some (.inl (mi_a h 125 (Int.toNat zu)))] [] h1 Q) : me_E (d) 197 9 [some (.inr (.inr 109)), some (.inl (zf)), some (.inl (zn)), some (.inl (zu))] [] h Q := me_seg (mp_liB_1 h d zf zn zu) (mi_tab_liB_1) hS (mi_okL_c (trivial) (mi_okL_c (ok_zf) (mi_okL_c (ok_zn) (mi_okL_c (ok_zu) (mi_okL_e))))) (mi_okS_e) (mi_al (ho.1) (mi_al (ho.2.1) (mi_al (ho.2.2.1) (mi_al (ho.2.2.2.1) (mi_al (ho.2.2.2.2.1) (mi_al (ho.2.2.2.2.2.1) (mi_al (ho.2.2.2.2.2.2) (mi_al_e)))))))) (fun h1 W _ hst => kon h1 W)
set_option maxRecDepth 20000 in
theorem mp_liB_2 (h : sm_H) (d : Nat) (zf zn zu : Int) : mi_path [(197, (4, 1, sb_197))] sx_sk h 28 [0, 0] (d, 197, 9, [some (.inr (.inr 109)), some (.inl (zf)), some (.inl (zn)), some (.inl (zu))], [], [], []) = some ((d, 197, 9, [some (.inr (.inr 109)), some (.inl (zf)), some (.inl ((zn + 1) + 1)), some (.inl (mi_a h 125 (Int.toNat zu)))], [], [.inr (.inr (.inl (145, Int.toNat (zn + 1), mi_a h 124 (Int.toNat zu)))), .inr (.inr (.inl (145, Int.toNat zn, zu)))], []), [((0 : Int)) ≤ zu, -2147483648 ≤ zn + 1 ∧ zn + 1 ≤ 2147483647, 0 ≤ zn ∧ zn < 100, 0 ≤ zu ∧ zu ≤ 99, 0 ≤ zu ∧ zu < 60, ((0 : Int)) ≤ (mi_a h 124 (Int.toNat zu)), -2147483648 ≤ (zn + 1) + 1 ∧ (zn + 1) + 1 ≤ 2147483647, 0 ≤ zu ∧ zu < 60, 0 ≤ (zn + 1) ∧ (zn + 1) < 100, 0 ≤ (mi_a h 124 (Int.toNat zu)) ∧ (mi_a h 124 (Int.toNat zu)) ≤ 99, 0 ≤ zu ∧ zu < 60]) := rfl
theorem mi_tab_liB_2 : ∀ e ∈ ([(197, (4, 1, sb_197))] : mi_T), sc_P e.1 = some e.2 := mi_tb mi_P197 (mi_tb_e)
set_option maxRecDepth 20000 in
theorem ms_liB_2 {h : sm_H} {d : Nat} {Q : Option mi_V → sm_H → Prop} {zf zn zu : Int} (hS : ab_Sh sx_sk h) (ok_zf : mi_in zf) (ok_zn : mi_in zn) (ok_zu : mi_in zu) (ho : (((0 : Int)) ≤ zu) ∧ (-2147483648 ≤ zn + 1 ∧ zn + 1 ≤ 2147483647) ∧ (0 ≤ zn ∧ zn < 100) ∧ (0 ≤ zu ∧ zu ≤ 99) ∧ (0 ≤ zu ∧ zu < 60) ∧ (((0 : Int)) ≤ (mi_a h 124 (Int.toNat zu))) ∧ (-2147483648 ≤ (zn + 1) + 1 ∧ (zn + 1) + 1 ≤ 2147483647) ∧ (0 ≤ zu ∧ zu < 60) ∧ (0 ≤ (zn + 1) ∧ (zn + 1) < 100) ∧ (0 ≤ (mi_a h 124 (Int.toNat zu)) ∧ (mi_a h 124 (Int.toNat zu)) ≤ 99) ∧ (0 ≤ zu ∧ zu < 60)) (kon : ∀ h1, me_W [.inr (.inr (.inl (145, Int.toNat (zn + 1), mi_a h 124 (Int.toNat zu)))), .inr (.inr (.inl (145, Int.toNat zn, zu)))] h h1 → me_E (d) 197 9 [some (.inr (.inr 109)), some (.inl (zf)), some (.inl ((zn + 1) + 1)), some (.inl (mi_a h 125 (Int.toNat zu)))] [] h1 Q) : me_E (d) 197 9 [some (.inr (.inr 109)), some (.inl (zf)), some (.inl (zn)), some (.inl (zu))] [] h Q := me_seg (mp_liB_2 h d zf zn zu) (mi_tab_liB_2) hS (mi_okL_c (trivial) (mi_okL_c (ok_zf) (mi_okL_c (ok_zn) (mi_okL_c (ok_zu) (mi_okL_e))))) (mi_okS_e) (mi_al (ho.1) (mi_al (ho.2.1) (mi_al (ho.2.2.1) (mi_al (ho.2.2.2.1) (mi_al (ho.2.2.2.2.1) (mi_al (ho.2.2.2.2.2.1) (mi_al (ho.2.2.2.2.2.2.1) (mi_al (ho.2.2.2.2.2.2.2.1) (mi_al (ho.2.2.2.2.2.2.2.2.1) (mi_al (ho.2.2.2.2.2.2.2.2.2.1) (mi_al (ho.2.2.2.2.2.2.2.2.2.2) (mi_al_e)))))))))))) (fun h1 W _ hst => kon h1 W)
set_option maxRecDepth 20000 in
theorem mt_liB {h : sm_H} {d : Nat} {Q : Option mi_V → sm_H → Prop} {zf zn zu : Int} (hS : ab_Sh sx_sk h) (ok_zf : mi_in zf) (ok_zn : mi_in zn) (ok_zu : mi_in zu) (k0 : (zu < ((0 : Int))) → (∀ h1, ab_Sh sx_sk h1 → ab_Fr [] h h1 → Q (some (.inl (zn))) h1)) (k1 : (((0 : Int)) ≤ zu) → ((mi_a h 124 (Int.toNat zu)) < ((0 : Int))) → ((-2147483648 ≤ zn + 1 ∧ zn + 1 ≤ 2147483647) ∧ (0 ≤ zn ∧ zn < 100) ∧ (0 ≤ zu ∧ zu ≤ 99) ∧ (0 ≤ zu ∧ zu < 60)) ∧ (∀ h1, ab_Sh sx_sk h1 → (∀ i, mi_a h1 145 i = if i = Int.toNat zn then zu else (mi_a h 145 i)) → ab_Fr [(18560, 18561)] h h1 → me_E (d) 197 9 [some (.inr (.inr 109)), some (.inl (zf)), some (.inl (zn + 1)), some (.inl (mi_a h 125 (Int.toNat zu)))] [] h1 Q)) (k2 : (((0 : Int)) ≤ zu) → (((0 : Int)) ≤ (mi_a h 124 (Int.toNat zu))) → ((-2147483648 ≤ zn + 1 ∧ zn + 1 ≤ 2147483647) ∧ (0 ≤ zn ∧ zn < 100) ∧ (0 ≤ zu ∧ zu ≤ 99) ∧ (0 ≤ zu ∧ zu < 60) ∧ (-2147483648 ≤ (zn + 1) + 1 ∧ (zn + 1) + 1 ≤ 2147483647) ∧ (0 ≤ (zn + 1) ∧ (zn + 1) < 100) ∧ (0 ≤ (mi_a h 124 (Int.toNat zu)) ∧ (mi_a h 124 (Int.toNat zu)) ≤ 99)) ∧ (∀ h1, ab_Sh sx_sk h1 → (∀ i, mi_a h1 145 i = if i = Int.toNat (zn + 1) then mi_a h 124 (Int.toNat zu) else if i = Int.toNat zn then zu else (mi_a h 145 i)) → ab_Fr [(18560, 18561)] h h1 → me_E (d) 197 9 [some (.inr (.inr 109)), some (.inl (zf)), some (.inl ((zn + 1) + 1)), some (.inl (mi_a h 125 (Int.toNat zu)))] [] h1 Q)) : me_E (d) 197 9 [some (.inr (.inr 109)), some (.inl (zf)), some (.inl (zn)), some (.inl (zu))] [] h Q := Or.elim (mi_em .lt (zu) (((0 : Int)))) (fun c0 => ms_liB_0 hS ok_zf ok_zn ok_zu (c0) (fun h1 W => (k0 c0) h1 W.1 (W.2.2.2.2.2 _ rfl))) (fun c0 => Or.elim (mi_em .lt ((mi_a h 124 (Int.toNat zu))) (((0 : Int)))) (fun c1 => ms_liB_1 hS ok_zf ok_zn ok_zu ⟨c0, (k1 c0 c1).1.1, (k1 c0 c1).1.2.1, (k1 c0 c1).1.2.2.1, (k1 c0 c1).1.2.2.2, c1, (k1 c0 c1).1.2.2.2⟩ (fun h1 W => (k1 c0 c1).2 h1 W.1 (fun i => W.2.2.1 145 i) (W.2.2.2.2.2 _ rfl))) (fun c1 => ms_liB_2 hS ok_zf ok_zn ok_zu ⟨c0, (k2 c0 c1).1.1, (k2 c0 c1).1.2.1, (k2 c0 c1).1.2.2.1, (k2 c0 c1).1.2.2.2.1, c1, (k2 c0 c1).1.2.2.2.2.1, (k2 c0 c1).1.2.2.2.1, (k2 c0 c1).1.2.2.2.2.2.1, (k2 c0 c1).1.2.2.2.2.2.2, (k2 c0 c1).1.2.2.2.1⟩ (fun h1 W => (k2 c0 c1).2 h1 W.1 (fun i => W.2.2.1 145 i) (W.2.2.2.2.2 _ rfl))))
set_option maxRecDepth 20000 in
theorem mp_diA_0 (h : sm_H) (d : Nat) (zf : Int) : mi_path [(224, (4, 1, sb_224))] sx_sk h 7 [] (d + 1, 224, 0, [some (.inr (.inr 109)), some (.inl (zf)), none, none], [], [], []) = some ((d + 1, 224, 9, [some (.inr (.inr 109)), some (.inl (zf)), some (.inl ((0 : Int))), some (.inl (mi_a h 129 (Int.toNat zf)))], [], [], []), [0 ≤ zf ∧ zf < 80]) := rfl
theorem mi_tab_diA_0 : ∀ e ∈ ([(224, (4, 1, sb_224))] : mi_T), sc_P e.1 = some e.2 := mi_tb mi_P224 (mi_tb_e)
set_option maxRecDepth 20000 in
theorem ms_diA_0 {h : sm_H} {d : Nat} {Q : Option mi_V → sm_H → Prop} {zf : Int} (hS : ab_Sh sx_sk h) (ok_zf : mi_in zf) (ho : (0 ≤ zf ∧ zf < 80)) (kon : ∀ h1, me_W [] h h1 → me_E (d + 1) 224 9 [some (.inr (.inr 109)), some (.inl (zf)), some (.inl ((0 : Int))), some (.inl (mi_a h 129 (Int.toNat zf)))] [] h1 Q) : me_E (d + 1) 224 0 [some (.inr (.inr 109)), some (.inl (zf)), none, none] [] h Q := me_seg (mp_diA_0 h d zf) (mi_tab_diA_0) hS (mi_okL_c (trivial) (mi_okL_c (ok_zf) (mi_okL_n (mi_okL_n (mi_okL_e))))) (mi_okS_e) (mi_al (ho) (mi_al_e)) (fun h1 W _ hst => kon h1 W)
set_option maxRecDepth 20000 in
theorem mt_diA {h : sm_H} {d : Nat} {Q : Option mi_V → sm_H → Prop} {zf : Int} (hS : ab_Sh sx_sk h) (ok_zf : mi_in zf) (k0 : ((0 ≤ zf ∧ zf < 80)) ∧ (∀ h1, ab_Sh sx_sk h1 → ab_Fr [] h h1 → me_E (d + 1) 224 9 [some (.inr (.inr 109)), some (.inl (zf)), some (.inl ((0 : Int))), some (.inl (mi_a h 129 (Int.toNat zf)))] [] h1 Q)) : me_E (d + 1) 224 0 [some (.inr (.inr 109)), some (.inl (zf)), none, none] [] h Q := ms_diA_0 hS ok_zf ((k0).1) (fun h1 W => (k0).2 h1 W.1 (W.2.2.2.2.2 _ rfl))
set_option maxRecDepth 20000 in
theorem mp_diB_0 (h : sm_H) (d : Nat) (zf zn za : Int) : mi_path [(224, (4, 1, sb_224)), (203, (3, 2, sb_203))] sx_sk h 3 [1] (d + 1, 224, 9, [some (.inr (.inr 109)), some (.inl (zf)), some (.inl (zn)), some (.inl (za))], [], [], []) = some ((d + 1, 224, 42, [some (.inr (.inr 109)), some (.inl (zf)), some (.inl (zn)), some (.inl (za))], [.inl ((-1 : Int))], [], []), [za < ((0 : Int))]) := rfl
theorem mi_tab_diB_0 : ∀ e ∈ ([(224, (4, 1, sb_224)), (203, (3, 2, sb_203))] : mi_T), sc_P e.1 = some e.2 := mi_tb mi_P224 (mi_tb mi_P203 (mi_tb_e))
set_option maxRecDepth 20000 in
theorem ms_diB_0 {h : sm_H} {d : Nat} {Q : Option mi_V → sm_H → Prop} {zf zn za : Int} (hS : ab_Sh sx_sk h) (ok_zf : mi_in zf) (ok_zn : mi_in zn) (ok_za : mi_in za) (ho : (za < ((0 : Int)))) (kon : ∀ h1, me_W [] h h1 → Q (some (.inl ((-1 : Int)))) h1) : me_E (d + 1) 224 9 [some (.inr (.inr 109)), some (.inl (zf)), some (.inl (zn)), some (.inl (za))] [] h Q := me_seg (mp_diB_0 h d zf zn za) (mi_tab_diB_0) hS (mi_okL_c (trivial) (mi_okL_c (ok_zf) (mi_okL_c (ok_zn) (mi_okL_c (ok_za) (mi_okL_e))))) (mi_okS_e) (mi_al (ho) (mi_al_e)) (fun h1 W _ hst => me_ret (M := (4, 1, sb_224)) rfl rfl rfl hst (mi_al_e) (kon h1 W))
set_option maxRecDepth 20000 in
theorem mp_diB_1 (h : sm_H) (d : Nat) (zf zn za : Int) : mi_path [(224, (4, 1, sb_224)), (203, (3, 2, sb_203))] sx_sk h 19 [0, 1] (d + 1, 224, 9, [some (.inr (.inr 109)), some (.inl (zf)), some (.inl (zn)), some (.inl (za))], [], [], []) = some ((d + 1, 224, 20, [some (.inr (.inr 109)), some (.inl (zf)), some (.inl (zn)), some (.inl (za))], [.inr (.inl ((mx_b h 135 (Int.toNat za)) ||| (Int64.ofNat 0))), .inr (.inr 109)], [], []), [((0 : Int)) ≤ za, 0 ≤ za ∧ za < 80, 0 ≤ za ∧ za < 80, (mi_a h 132 (Int.toNat za)) = ((0 : Int))]) := rfl
theorem mi_tab_diB_1 : ∀ e ∈ ([(224, (4, 1, sb_224)), (203, (3, 2, sb_203))] : mi_T), sc_P e.1 = some e.2 := mi_tb mi_P224 (mi_tb mi_P203 (mi_tb_e))
set_option maxRecDepth 20000 in
theorem ms_diB_1 {h : sm_H} {d : Nat} {Q : Option mi_V → sm_H → Prop} {zf zn za : Int} (hS : ab_Sh sx_sk h) (ok_zf : mi_in zf) (ok_zn : mi_in zn) (ok_za : mi_in za) (ho : (((0 : Int)) ≤ za) ∧ (0 ≤ za ∧ za < 80) ∧ (0 ≤ za ∧ za < 80) ∧ ((mi_a h 132 (Int.toNat za)) = ((0 : Int)))) (kon : ∀ h1, me_W [] h h1 → ∃ Q1, me_E (d + 0) 212 0 (mi_entry 3 [.inr (.inr 109), .inr (.inl ((mx_b h 135 (Int.toNat za)) ||| (Int64.ofNat 0)))]) [] h1 Q1 ∧ ∀ w h2, (∀ x, w = some x → mi_ok x) → Q1 w h2 → me_E (d + 1) 224 23 [some (.inr (.inr 109)), some (.inl (zf)), some (.inl (zn)), some (.inl (za))] (mi_back w []) h2 Q) : me_E (d + 1) 224 9 [some (.inr (.inr 109)), some (.inl (zf)), some (.inl (zn)), some (.inl (za))] [] h Q := me_seg (mp_diB_1 h d zf zn za) (mi_tab_diB_1) hS (mi_okL_c (trivial) (mi_okL_c (ok_zf) (mi_okL_c (ok_zn) (mi_okL_c (ok_za) (mi_okL_e))))) (mi_okS_e) (mi_al (ho.1) (mi_al (ho.2.1) (mi_al (ho.2.2.1) (mi_al (ho.2.2.2) (mi_al_e))))) (fun h1 W _ hst => let ⟨_, k1, k2⟩ := kon h1 W; me_call (M := (4, 1, sb_224)) (M' := (3, 4, sb_212)) rfl rfl rfl rfl (Nat.le_of_ble_eq_true rfl) (Nat.le_of_ble_eq_true rfl) W.1 k1 k2)
set_option maxRecDepth 20000 in
theorem mp_diB_2 (h : sm_H) (d : Nat) (zf zn za : Int) : mi_path [(224, (4, 1, sb_224)), (203, (3, 2, sb_203))] sx_sk h 23 [0, 0] (d + 1, 224, 9, [some (.inr (.inr 109)), some (.inl (zf)), some (.inl (zn)), some (.inl (za))], [], [], []) = some ((d + 1, 224, 20, [some (.inr (.inr 109)), some (.inl (zf)), some (.inl (zn)), some (.inl (za))], [.inr (.inl ((mx_b h 135 (Int.toNat za)) ||| (mx_b h 138 (Int.toNat zf)))), .inr (.inr 109)], [], []), [((0 : Int)) ≤ za, 0 ≤ za ∧ za < 80, 0 ≤ za ∧ za < 80, (mi_a h 132 (Int.toNat za)) ≠ ((0 : Int)), 0 ≤ zf ∧ zf < 80]) := rfl
theorem mi_tab_diB_2 : ∀ e ∈ ([(224, (4, 1, sb_224)), (203, (3, 2, sb_203))] : mi_T), sc_P e.1 = some e.2 := mi_tb mi_P224 (mi_tb mi_P203 (mi_tb_e))
set_option maxRecDepth 20000 in
theorem ms_diB_2 {h : sm_H} {d : Nat} {Q : Option mi_V → sm_H → Prop} {zf zn za : Int} (hS : ab_Sh sx_sk h) (ok_zf : mi_in zf) (ok_zn : mi_in zn) (ok_za : mi_in za) (ho : (((0 : Int)) ≤ za) ∧ (0 ≤ za ∧ za < 80) ∧ (0 ≤ za ∧ za < 80) ∧ ((mi_a h 132 (Int.toNat za)) ≠ ((0 : Int))) ∧ (0 ≤ zf ∧ zf < 80)) (kon : ∀ h1, me_W [] h h1 → ∃ Q1, me_E (d + 0) 212 0 (mi_entry 3 [.inr (.inr 109), .inr (.inl ((mx_b h 135 (Int.toNat za)) ||| (mx_b h 138 (Int.toNat zf))))]) [] h1 Q1 ∧ ∀ w h2, (∀ x, w = some x → mi_ok x) → Q1 w h2 → me_E (d + 1) 224 23 [some (.inr (.inr 109)), some (.inl (zf)), some (.inl (zn)), some (.inl (za))] (mi_back w []) h2 Q) : me_E (d + 1) 224 9 [some (.inr (.inr 109)), some (.inl (zf)), some (.inl (zn)), some (.inl (za))] [] h Q := me_seg (mp_diB_2 h d zf zn za) (mi_tab_diB_2) hS (mi_okL_c (trivial) (mi_okL_c (ok_zf) (mi_okL_c (ok_zn) (mi_okL_c (ok_za) (mi_okL_e))))) (mi_okS_e) (mi_al (ho.1) (mi_al (ho.2.1) (mi_al (ho.2.2.1) (mi_al (ho.2.2.2.1) (mi_al (ho.2.2.2.2) (mi_al_e)))))) (fun h1 W _ hst => let ⟨_, k1, k2⟩ := kon h1 W; me_call (M := (4, 1, sb_224)) (M' := (3, 4, sb_212)) rfl rfl rfl rfl (Nat.le_of_ble_eq_true rfl) (Nat.le_of_ble_eq_true rfl) W.1 k1 k2)
set_option maxRecDepth 20000 in
theorem mt_diB {h : sm_H} {d : Nat} {Q : Option mi_V → sm_H → Prop} {zf zn za : Int} (hS : ab_Sh sx_sk h) (ok_zf : mi_in zf) (ok_zn : mi_in zn) (ok_za : mi_in za) (k0 : (za < ((0 : Int))) → (∀ h1, ab_Sh sx_sk h1 → ab_Fr [] h h1 → Q (some (.inl ((-1 : Int)))) h1)) (k1 : (((0 : Int)) ≤ za) → ((mi_a h 132 (Int.toNat za)) = ((0 : Int))) → ((0 ≤ za ∧ za < 80)) ∧ (∀ h1, ab_Sh sx_sk h1 → ab_Fr [] h h1 → ∃ Q1, me_E (d + 0) 212 0 (mi_entry 3 [.inr (.inr 109), .inr (.inl ((mx_b h 135 (Int.toNat za)) ||| (Int64.ofNat 0)))]) [] h1 Q1 ∧ ∀ w h2, (∀ x, w = some x → mi_ok x) → Q1 w h2 → me_E (d + 1) 224 23 [some (.inr (.inr 109)), some (.inl (zf)), some (.inl (zn)), some (.inl (za))] (mi_back w []) h2 Q)) (k2 : (((0 : Int)) ≤ za) → ((mi_a h 132 (Int.toNat za)) ≠ ((0 : Int))) → ((0 ≤ za ∧ za < 80) ∧ (0 ≤ zf ∧ zf < 80)) ∧ (∀ h1, ab_Sh sx_sk h1 → ab_Fr [] h h1 → ∃ Q1, me_E (d + 0) 212 0 (mi_entry 3 [.inr (.inr 109), .inr (.inl ((mx_b h 135 (Int.toNat za)) ||| (mx_b h 138 (Int.toNat zf))))]) [] h1 Q1 ∧ ∀ w h2, (∀ x, w = some x → mi_ok x) → Q1 w h2 → me_E (d + 1) 224 23 [some (.inr (.inr 109)), some (.inl (zf)), some (.inl (zn)), some (.inl (za))] (mi_back w []) h2 Q)) : me_E (d + 1) 224 9 [some (.inr (.inr 109)), some (.inl (zf)), some (.inl (zn)), some (.inl (za))] [] h Q := Or.elim (mi_em .lt (za) (((0 : Int)))) (fun c0 => ms_diB_0 hS ok_zf ok_zn ok_za (c0) (fun h1 W => (k0 c0) h1 W.1 (W.2.2.2.2.2 _ rfl))) (fun c0 => Or.elim (mi_em .eq ((mi_a h 132 (Int.toNat za))) (((0 : Int)))) (fun c1 => ms_diB_1 hS ok_zf ok_zn ok_za ⟨c0, (k1 c0 c1).1, (k1 c0 c1).1, c1⟩ (fun h1 W => (k1 c0 c1).2 h1 W.1 (W.2.2.2.2.2 _ rfl))) (fun c1 => ms_diB_2 hS ok_zf ok_zn ok_za ⟨c0, (k2 c0 c1).1.1, (k2 c0 c1).1.1, c1, (k2 c0 c1).1.2⟩ (fun h1 W => (k2 c0 c1).2 h1 W.1 (W.2.2.2.2.2 _ rfl))))
set_option maxRecDepth 20000 in
theorem mp_diC_0 (h : sm_H) (d : Nat) (zf zn za zz : Int) : mi_path [(224, (4, 1, sb_224))] sx_sk h 8 [1] (d + 1, 224, 23, [some (.inr (.inr 109)), some (.inl (zf)), some (.inl (zn)), some (.inl (za))], [.inl (zz)], [], []) = some ((d + 1, 224, 9, [some (.inr (.inr 109)), some (.inl (zf)), some (.inl (zn + 1)), some (.inl (mi_a h 128 (Int.toNat za)))], [], [], []), [zz = ((0 : Int)), -2147483648 ≤ zn + 1 ∧ zn + 1 ≤ 2147483647, 0 ≤ za ∧ za < 80]) := rfl
theorem mi_tab_diC_0 : ∀ e ∈ ([(224, (4, 1, sb_224))] : mi_T), sc_P e.1 = some e.2 := mi_tb mi_P224 (mi_tb_e)
set_option maxRecDepth 20000 in
theorem ms_diC_0 {h : sm_H} {d : Nat} {Q : Option mi_V → sm_H → Prop} {zf zn za zz : Int} (hS : ab_Sh sx_sk h) (ok_zf : mi_in zf) (ok_zn : mi_in zn) (ok_za : mi_in za) (ok_zz : mi_in zz) (ho : (zz = ((0 : Int))) ∧ (-2147483648 ≤ zn + 1 ∧ zn + 1 ≤ 2147483647) ∧ (0 ≤ za ∧ za < 80)) (kon : ∀ h1, me_W [] h h1 → me_E (d + 1) 224 9 [some (.inr (.inr 109)), some (.inl (zf)), some (.inl (zn + 1)), some (.inl (mi_a h 128 (Int.toNat za)))] [] h1 Q) : me_E (d + 1) 224 23 [some (.inr (.inr 109)), some (.inl (zf)), some (.inl (zn)), some (.inl (za))] [.inl (zz)] h Q := me_seg (mp_diC_0 h d zf zn za zz) (mi_tab_diC_0) hS (mi_okL_c (trivial) (mi_okL_c (ok_zf) (mi_okL_c (ok_zn) (mi_okL_c (ok_za) (mi_okL_e))))) (mi_okS_cons (ok_zz) (mi_okS_e)) (mi_al (ho.1) (mi_al (ho.2.1) (mi_al (ho.2.2) (mi_al_e)))) (fun h1 W _ hst => kon h1 W)
set_option maxRecDepth 20000 in
theorem mp_diC_1 (h : sm_H) (d : Nat) (zf zn za zz : Int) : mi_path [(224, (4, 1, sb_224))] sx_sk h 2 [0] (d + 1, 224, 23, [some (.inr (.inr 109)), some (.inl (zf)), some (.inl (zn)), some (.inl (za))], [.inl (zz)], [], []) = some ((d + 1, 224, 27, [some (.inr (.inr 109)), some (.inl (zf)), some (.inl (zn)), some (.inl (za))], [.inl (zn)], [], []), [zz ≠ ((0 : Int))]) := rfl
theorem mi_tab_diC_1 : ∀ e ∈ ([(224, (4, 1, sb_224))] : mi_T), sc_P e.1 = some e.2 := mi_tb mi_P224 (mi_tb_e)
set_option maxRecDepth 20000 in
theorem ms_diC_1 {h : sm_H} {d : Nat} {Q : Option mi_V → sm_H → Prop} {zf zn za zz : Int} (hS : ab_Sh sx_sk h) (ok_zf : mi_in zf) (ok_zn : mi_in zn) (ok_za : mi_in za) (ok_zz : mi_in zz) (ho : (zz ≠ ((0 : Int)))) (kon : ∀ h1, me_W [] h h1 → Q (some (.inl (zn))) h1) : me_E (d + 1) 224 23 [some (.inr (.inr 109)), some (.inl (zf)), some (.inl (zn)), some (.inl (za))] [.inl (zz)] h Q := me_seg (mp_diC_1 h d zf zn za zz) (mi_tab_diC_1) hS (mi_okL_c (trivial) (mi_okL_c (ok_zf) (mi_okL_c (ok_zn) (mi_okL_c (ok_za) (mi_okL_e))))) (mi_okS_cons (ok_zz) (mi_okS_e)) (mi_al (ho) (mi_al_e)) (fun h1 W _ hst => me_ret (M := (4, 1, sb_224)) rfl rfl rfl hst (mi_al_e) (kon h1 W))
set_option maxRecDepth 20000 in
theorem mt_diC {h : sm_H} {d : Nat} {Q : Option mi_V → sm_H → Prop} {zf zn za zz : Int} (hS : ab_Sh sx_sk h) (ok_zf : mi_in zf) (ok_zn : mi_in zn) (ok_za : mi_in za) (ok_zz : mi_in zz) (k0 : (zz = ((0 : Int))) → ((-2147483648 ≤ zn + 1 ∧ zn + 1 ≤ 2147483647) ∧ (0 ≤ za ∧ za < 80)) ∧ (∀ h1, ab_Sh sx_sk h1 → ab_Fr [] h h1 → me_E (d + 1) 224 9 [some (.inr (.inr 109)), some (.inl (zf)), some (.inl (zn + 1)), some (.inl (mi_a h 128 (Int.toNat za)))] [] h1 Q)) (k1 : (zz ≠ ((0 : Int))) → (∀ h1, ab_Sh sx_sk h1 → ab_Fr [] h h1 → Q (some (.inl (zn))) h1)) : me_E (d + 1) 224 23 [some (.inr (.inr 109)), some (.inl (zf)), some (.inl (zn)), some (.inl (za))] [.inl (zz)] h Q := Or.elim (mi_em .eq (zz) (((0 : Int)))) (fun c0 => ms_diC_0 hS ok_zf ok_zn ok_za ok_zz ⟨c0, (k0 c0).1.1, (k0 c0).1.2⟩ (fun h1 W => (k0 c0).2 h1 W.1 (W.2.2.2.2.2 _ rfl))) (fun c0 => ms_diC_1 hS ok_zf ok_zn ok_za ok_zz (c0) (fun h1 W => (k1 c0) h1 W.1 (W.2.2.2.2.2 _ rfl)))
set_option maxRecDepth 20000 in
theorem mp_loA_0 (h : sm_H) (d : Nat) (zf : Int) : mi_path [(225, (6, 1, sb_225))] sx_sk h 11 [] (d, 225, 0, [some (.inr (.inr 109)), some (.inl (zf)), none, none, none, none], [], [], []) = some ((d, 225, 17, [some (.inr (.inr 109)), some (.inl (zf)), some (.inl ((0 : Int))), some (.inl ((0 : Int))), some (.inl ((1001 : Int))), some (.inl (mi_a h 129 (Int.toNat zf)))], [], [], []), [0 ≤ zf ∧ zf < 80]) := rfl
theorem mi_tab_loA_0 : ∀ e ∈ ([(225, (6, 1, sb_225))] : mi_T), sc_P e.1 = some e.2 := mi_tb mi_P225 (mi_tb_e)
set_option maxRecDepth 20000 in
theorem ms_loA_0 {h : sm_H} {d : Nat} {Q : Option mi_V → sm_H → Prop} {zf : Int} (hS : ab_Sh sx_sk h) (ok_zf : mi_in zf) (ho : (0 ≤ zf ∧ zf < 80)) (kon : ∀ h1, me_W [] h h1 → me_E (d) 225 17 [some (.inr (.inr 109)), some (.inl (zf)), some (.inl ((0 : Int))), some (.inl ((0 : Int))), some (.inl ((1001 : Int))), some (.inl (mi_a h 129 (Int.toNat zf)))] [] h1 Q) : me_E (d) 225 0 [some (.inr (.inr 109)), some (.inl (zf)), none, none, none, none] [] h Q := me_seg (mp_loA_0 h d zf) (mi_tab_loA_0) hS (mi_okL_c (trivial) (mi_okL_c (ok_zf) (mi_okL_n (mi_okL_n (mi_okL_n (mi_okL_n (mi_okL_e))))))) (mi_okS_e) (mi_al (ho) (mi_al_e)) (fun h1 W _ hst => kon h1 W)
set_option maxRecDepth 20000 in
theorem mt_loA {h : sm_H} {d : Nat} {Q : Option mi_V → sm_H → Prop} {zf : Int} (hS : ab_Sh sx_sk h) (ok_zf : mi_in zf) (k0 : ((0 ≤ zf ∧ zf < 80)) ∧ (∀ h1, ab_Sh sx_sk h1 → ab_Fr [] h h1 → me_E (d) 225 17 [some (.inr (.inr 109)), some (.inl (zf)), some (.inl ((0 : Int))), some (.inl ((0 : Int))), some (.inl ((1001 : Int))), some (.inl (mi_a h 129 (Int.toNat zf)))] [] h1 Q)) : me_E (d) 225 0 [some (.inr (.inr 109)), some (.inl (zf)), none, none, none, none] [] h Q := ms_loA_0 hS ok_zf ((k0).1) (fun h1 W => (k0).2 h1 W.1 (W.2.2.2.2.2 _ rfl))
set_option maxRecDepth 20000 in
theorem mp_loB_0 (h : sm_H) (d : Nat) (zf zn zb zh za : Int) : mi_path [(225, (6, 1, sb_225))] sx_sk h 3 [1] (d, 225, 17, [some (.inr (.inr 109)), some (.inl (zf)), some (.inl (zn)), some (.inl (zb)), some (.inl (zh)), some (.inl (za))], [], [], []) = some ((d, 225, 82, [some (.inr (.inr 109)), some (.inl (zf)), some (.inl (zn)), some (.inl (zb)), some (.inl (zh)), some (.inl (za))], [.inl (zb)], [], []), [za < ((0 : Int))]) := rfl
theorem mi_tab_loB_0 : ∀ e ∈ ([(225, (6, 1, sb_225))] : mi_T), sc_P e.1 = some e.2 := mi_tb mi_P225 (mi_tb_e)
set_option maxRecDepth 20000 in
theorem ms_loB_0 {h : sm_H} {d : Nat} {Q : Option mi_V → sm_H → Prop} {zf zn zb zh za : Int} (hS : ab_Sh sx_sk h) (ok_zf : mi_in zf) (ok_zn : mi_in zn) (ok_zb : mi_in zb) (ok_zh : mi_in zh) (ok_za : mi_in za) (ho : (za < ((0 : Int)))) (kon : ∀ h1, me_W [] h h1 → Q (some (.inl (zb))) h1) : me_E (d) 225 17 [some (.inr (.inr 109)), some (.inl (zf)), some (.inl (zn)), some (.inl (zb)), some (.inl (zh)), some (.inl (za))] [] h Q := me_seg (mp_loB_0 h d zf zn zb zh za) (mi_tab_loB_0) hS (mi_okL_c (trivial) (mi_okL_c (ok_zf) (mi_okL_c (ok_zn) (mi_okL_c (ok_zb) (mi_okL_c (ok_zh) (mi_okL_c (ok_za) (mi_okL_e))))))) (mi_okS_e) (mi_al (ho) (mi_al_e)) (fun h1 W _ hst => me_ret (M := (6, 1, sb_225)) rfl rfl rfl hst (mi_al_e) (kon h1 W))
set_option maxRecDepth 20000 in
theorem mp_loB_1 (h : sm_H) (d : Nat) (zf zn zb zh za : Int) : mi_path [(225, (6, 1, sb_225))] sx_sk h 25 [0, 1, 1] (d, 225, 17, [some (.inr (.inr 109)), some (.inl (zf)), some (.inl (zn)), some (.inl (zb)), some (.inl (zh)), some (.inl (za))], [], [], []) = some ((d, 225, 17, [some (.inr (.inr 109)), some (.inl (zf)), some (.inl (zn + 1)), some (.inl (zb)), some (.inl (zh)), some (.inl (mi_a h 128 (Int.toNat za)))], [], [], []), [((0 : Int)) ≤ za, 0 ≤ za ∧ za < 80, zh ≤ (mi_a h 143 (Int.toNat za)), 0 ≤ za ∧ za < 80, zh ≤ (mi_a h 143 (Int.toNat za)), -2147483648 ≤ zn + 1 ∧ zn + 1 ≤ 2147483647, 0 ≤ za ∧ za < 80]) := rfl
theorem mi_tab_loB_1 : ∀ e ∈ ([(225, (6, 1, sb_225))] : mi_T), sc_P e.1 = some e.2 := mi_tb mi_P225 (mi_tb_e)
set_option maxRecDepth 20000 in
theorem ms_loB_1 {h : sm_H} {d : Nat} {Q : Option mi_V → sm_H → Prop} {zf zn zb zh za : Int} (hS : ab_Sh sx_sk h) (ok_zf : mi_in zf) (ok_zn : mi_in zn) (ok_zb : mi_in zb) (ok_zh : mi_in zh) (ok_za : mi_in za) (ho : (((0 : Int)) ≤ za) ∧ (0 ≤ za ∧ za < 80) ∧ (zh ≤ (mi_a h 143 (Int.toNat za))) ∧ (0 ≤ za ∧ za < 80) ∧ (zh ≤ (mi_a h 143 (Int.toNat za))) ∧ (-2147483648 ≤ zn + 1 ∧ zn + 1 ≤ 2147483647) ∧ (0 ≤ za ∧ za < 80)) (kon : ∀ h1, me_W [] h h1 → me_E (d) 225 17 [some (.inr (.inr 109)), some (.inl (zf)), some (.inl (zn + 1)), some (.inl (zb)), some (.inl (zh)), some (.inl (mi_a h 128 (Int.toNat za)))] [] h1 Q) : me_E (d) 225 17 [some (.inr (.inr 109)), some (.inl (zf)), some (.inl (zn)), some (.inl (zb)), some (.inl (zh)), some (.inl (za))] [] h Q := me_seg (mp_loB_1 h d zf zn zb zh za) (mi_tab_loB_1) hS (mi_okL_c (trivial) (mi_okL_c (ok_zf) (mi_okL_c (ok_zn) (mi_okL_c (ok_zb) (mi_okL_c (ok_zh) (mi_okL_c (ok_za) (mi_okL_e))))))) (mi_okS_e) (mi_al (ho.1) (mi_al (ho.2.1) (mi_al (ho.2.2.1) (mi_al (ho.2.2.2.1) (mi_al (ho.2.2.2.2.1) (mi_al (ho.2.2.2.2.2.1) (mi_al (ho.2.2.2.2.2.2) (mi_al_e)))))))) (fun h1 W _ hst => kon h1 W)
set_option maxRecDepth 20000 in
theorem mp_loB_2 (h : sm_H) (d : Nat) (zf zn zb zh za : Int) : mi_path [(225, (6, 1, sb_225))] sx_sk h 30 [0, 0, 0] (d, 225, 17, [some (.inr (.inr 109)), some (.inl (zf)), some (.inl (zn)), some (.inl (zb)), some (.inl (zh)), some (.inl (za))], [], [], []) = some ((d, 225, 17, [some (.inr (.inr 109)), some (.inl (zf)), some (.inl (zn + 1)), some (.inl (zn)), some (.inl (mi_a h 143 (Int.toNat za))), some (.inl (mi_a h 128 (Int.toNat za)))], [], [], []), [((0 : Int)) ≤ za, 0 ≤ za ∧ za < 80, (mi_a h 143 (Int.toNat za)) < zh, 0 ≤ za ∧ za < 80, (mi_a h 143 (Int.toNat za)) < zh, 0 ≤ za ∧ za < 80, -2147483648 ≤ zn + 1 ∧ zn + 1 ≤ 2147483647, 0 ≤ za ∧ za < 80]) := rfl
theorem mi_tab_loB_2 : ∀ e ∈ ([(225, (6, 1, sb_225))] : mi_T), sc_P e.1 = some e.2 := mi_tb mi_P225 (mi_tb_e)
set_option maxRecDepth 20000 in
theorem ms_loB_2 {h : sm_H} {d : Nat} {Q : Option mi_V → sm_H → Prop} {zf zn zb zh za : Int} (hS : ab_Sh sx_sk h) (ok_zf : mi_in zf) (ok_zn : mi_in zn) (ok_zb : mi_in zb) (ok_zh : mi_in zh) (ok_za : mi_in za) (ho : (((0 : Int)) ≤ za) ∧ (0 ≤ za ∧ za < 80) ∧ ((mi_a h 143 (Int.toNat za)) < zh) ∧ (0 ≤ za ∧ za < 80) ∧ ((mi_a h 143 (Int.toNat za)) < zh) ∧ (0 ≤ za ∧ za < 80) ∧ (-2147483648 ≤ zn + 1 ∧ zn + 1 ≤ 2147483647) ∧ (0 ≤ za ∧ za < 80)) (kon : ∀ h1, me_W [] h h1 → me_E (d) 225 17 [some (.inr (.inr 109)), some (.inl (zf)), some (.inl (zn + 1)), some (.inl (zn)), some (.inl (mi_a h 143 (Int.toNat za))), some (.inl (mi_a h 128 (Int.toNat za)))] [] h1 Q) : me_E (d) 225 17 [some (.inr (.inr 109)), some (.inl (zf)), some (.inl (zn)), some (.inl (zb)), some (.inl (zh)), some (.inl (za))] [] h Q := me_seg (mp_loB_2 h d zf zn zb zh za) (mi_tab_loB_2) hS (mi_okL_c (trivial) (mi_okL_c (ok_zf) (mi_okL_c (ok_zn) (mi_okL_c (ok_zb) (mi_okL_c (ok_zh) (mi_okL_c (ok_za) (mi_okL_e))))))) (mi_okS_e) (mi_al (ho.1) (mi_al (ho.2.1) (mi_al (ho.2.2.1) (mi_al (ho.2.2.2.1) (mi_al (ho.2.2.2.2.1) (mi_al (ho.2.2.2.2.2.1) (mi_al (ho.2.2.2.2.2.2.1) (mi_al (ho.2.2.2.2.2.2.2) (mi_al_e))))))))) (fun h1 W _ hst => kon h1 W)
set_option maxRecDepth 20000 in
theorem mt_loB {h : sm_H} {d : Nat} {Q : Option mi_V → sm_H → Prop} {zf zn zb zh za : Int} (hS : ab_Sh sx_sk h) (ok_zf : mi_in zf) (ok_zn : mi_in zn) (ok_zb : mi_in zb) (ok_zh : mi_in zh) (ok_za : mi_in za) (k0 : (za < ((0 : Int))) → (∀ h1, ab_Sh sx_sk h1 → ab_Fr [] h h1 → Q (some (.inl (zb))) h1)) (k1 : (((0 : Int)) ≤ za) → (zh ≤ (mi_a h 143 (Int.toNat za))) → ((0 ≤ za ∧ za < 80) ∧ (-2147483648 ≤ zn + 1 ∧ zn + 1 ≤ 2147483647)) ∧ (∀ h1, ab_Sh sx_sk h1 → ab_Fr [] h h1 → me_E (d) 225 17 [some (.inr (.inr 109)), some (.inl (zf)), some (.inl (zn + 1)), some (.inl (zb)), some (.inl (zh)), some (.inl (mi_a h 128 (Int.toNat za)))] [] h1 Q)) (k2 : (((0 : Int)) ≤ za) → ((mi_a h 143 (Int.toNat za)) < zh) → ((0 ≤ za ∧ za < 80) ∧ (-2147483648 ≤ zn + 1 ∧ zn + 1 ≤ 2147483647)) ∧ (∀ h1, ab_Sh sx_sk h1 → ab_Fr [] h h1 → me_E (d) 225 17 [some (.inr (.inr 109)), some (.inl (zf)), some (.inl (zn + 1)), some (.inl (zn)), some (.inl (mi_a h 143 (Int.toNat za))), some (.inl (mi_a h 128 (Int.toNat za)))] [] h1 Q)) : me_E (d) 225 17 [some (.inr (.inr 109)), some (.inl (zf)), some (.inl (zn)), some (.inl (zb)), some (.inl (zh)), some (.inl (za))] [] h Q := Or.elim (mi_em .lt (za) (((0 : Int)))) (fun c0 => ms_loB_0 hS ok_zf ok_zn ok_zb ok_zh ok_za (c0) (fun h1 W => (k0 c0) h1 W.1 (W.2.2.2.2.2 _ rfl))) (fun c0 => Or.elim (mi_em .ge ((mi_a h 143 (Int.toNat za))) (zh)) (fun c1 => ms_loB_1 hS ok_zf ok_zn ok_zb ok_zh ok_za ⟨c0, (k1 c0 c1).1.1, c1, (k1 c0 c1).1.1, c1, (k1 c0 c1).1.2, (k1 c0 c1).1.1⟩ (fun h1 W => (k1 c0 c1).2 h1 W.1 (W.2.2.2.2.2 _ rfl))) (fun c1 => ms_loB_2 hS ok_zf ok_zn ok_zb ok_zh ok_za ⟨c0, (k2 c0 c1).1.1, c1, (k2 c0 c1).1.1, c1, (k2 c0 c1).1.1, (k2 c0 c1).1.2, (k2 c0 c1).1.1⟩ (fun h1 W => (k2 c0 c1).2 h1 W.1 (W.2.2.2.2.2 _ rfl))))
/-! line, directed, lowest -/
def wk_row (g : wk_g) : Nat → Int → List Int
  | 0, _ => []
  | n + 1, u => if u < 0 then [] else if 0 ≤ g 124 u.toNat then u :: g 124 u.toNat :: wk_row g n (g 125 u.toNat) else u :: wk_row g n (g 125 u.toNat)
def wk_en (g : wk_g) : Int → List Int → List wk_E
  | _, [] => []
  | q, x :: r => (if 0 ≤ q ∧ g 124 q.toNat = x then [(3, 0, 0), (0, x, if 0 ≤ g 124 x.toNat then 1 else 0), (4, 0, 0)] else [(0, x, if 0 ≤ g 124 x.toNat then 1 else 0)]) ++ wk_en g x r
/-- items go on to greater units -/
def wk_C (g : wk_g) (U : Int) : Prop := U ≤ 60 ∧ ∀ u, 0 ≤ u → u < U → (0 ≤ g 124 u.toNat → g 124 u.toNat < U ∧ u < g 124 u.toNat ∧ g 124 (g 124 u.toNat).toNat < 0) ∧ (0 ≤ g 125 u.toNat → g 125 u.toNat < U ∧ u < g 125 u.toNat ∧ (0 ≤ g 124 u.toNat → g 124 u.toNat < g 125 u.toNat))
theorem wk_L_C {g : wk_g} {Y : wk_Y} (hL : wk_L g Y) : wk_C g (wk_u Y) := by
  refine ⟨hL.1, fun u h0 h1 => ?_⟩
  obtain ⟨⟨a1, a2, -⟩, a3, a4, -⟩ := hL.2.2.1 u h0 h1
  refine ⟨fun hm => ?_, fun hn => ?_⟩
  · have := a3 hm
    exact ⟨this.1, by omega, this.2.2.2⟩
  · have b := a4 hn
    refine ⟨b.1, by omega, fun hm => ?_⟩
    have c := a3 hm
    obtain ⟨⟨d1, -⟩, -⟩ := hL.2.2.1 _ hm c.1
    have := b.2.2.2 hm
    omega
theorem wk_en_row {g : wk_g} {U : Int} (hC : wk_C g U) : ∀ (N : Nat) (u q : Int), (u < 0 ∨ u < U) → (0 ≤ q → g 124 q.toNat ≠ u ∨ u < 0) → wk_en g q (wk_row g N u) = wk_it g N u := by
  intro N
  induction N with
  | zero => intro u q _ _; rfl
  | succ N ih =>
    intro u q hu hq
    unfold wk_row wk_it
    by_cases hneg : u < 0
    · rw [if_pos hneg, if_pos hneg]
      rfl
    · rw [if_neg hneg, if_neg hneg]
      obtain ⟨c1, c2⟩ := hC.2 u (by omega) (by omega)
      have nq : ¬ (0 ≤ q ∧ g 124 q.toNat = u) := fun z => by
        rcases hq z.1 with e | e
        · exact e z.2
        · exact hneg e
      have hv : g 125 u.toNat < 0 ∨ g 125 u.toNat < U := by
        by_cases h0 : 0 ≤ g 125 u.toNat
        · exact Or.inr (c2 h0).1
        · exact Or.inl (by omega)
      by_cases hm : 0 ≤ g 124 u.toNat
      · rw [if_pos hm, if_pos hm]
        have c1 := c1 hm
        have n124 : ¬ 0 ≤ g 124 (g 124 u.toNat).toNat := by omega
        show (if 0 ≤ q ∧ g 124 q.toNat = u then _ else _) ++ ((if 0 ≤ u ∧ g 124 u.toNat = g 124 u.toNat then _ else _) ++ wk_en g (g 124 u.toNat) (wk_row g N (g 125 u.toNat))) = _
        rw [if_neg nq, if_pos hm, if_pos ⟨by omega, rfl⟩, if_neg n124, ih _ _ hv (fun _ => by
          by_cases h0 : g 125 u.toNat < 0
          · exact Or.inr h0
          · exact Or.inl (by omega))]
        rfl
      · rw [if_neg hm, if_neg hm]
        show (if 0 ≤ q ∧ g 124 q.toNat = u then _ else _) ++ wk_en g u (wk_row g N (g 125 u.toNat)) = _
        rw [if_neg nq, if_neg hm, ih _ _ hv (fun _ => by
          by_cases h0 : g 125 u.toNat < 0
          · exact Or.inr h0
          · exact Or.inl (by omega))]
        rfl
section LIN
variable {d : Nat} {h0 : sm_H} {U zf : Int}
theorem me_liB (hS0 : ab_Sh sx_sk h0) (hC : wk_C (mi_a h0) U) (of : mi_in zf) : ∀ (N : Nat) (zu zn : Int) (h : sm_H), ab_Sh sx_sk h → ab_Fr [(18560, 18561)] h0 h → 0 ≤ zn → zn ≤ 60 → (zu < 0 ∨ (zu < U ∧ zn ≤ zu)) → (zu < 0 ∨ 60 - zu < N) → mi_in zu → me_E d 197 9 [some (.inr (.inr 109)), some (.inl zf), some (.inl zn), some (.inl zu)] [] h (fun w h' => ab_Sh sx_sk h' ∧ ab_Fr [(18560, 18561)] h0 h' ∧ w = some (.inl (zn + ((wk_row (mi_a h0) N zu).length : Int))) ∧ zn + ((wk_row (mi_a h0) N zu).length : Int) ≤ 60 ∧ (∀ (k : Nat) (x : Int), (wk_row (mi_a h0) N zu)[k]? = some x → mi_a h' 145 (zn.toNat + k) = x ∧ 0 ≤ x ∧ x < U) ∧ ∀ k : Nat, k < zn.toNat → mi_a h' 145 k = mi_a h 145 k) := by
  intro N
  induction N with
  | zero =>
    intro zu zn h hS hF h1 h2 h3 h4 ou
    have on : mi_in zn := ⟨by omega, by omega⟩
    have := hC.1
    refine mt_liB hS of on ou ?_ ?_ ?_
    · intro c h1' g1 g2
      have e := me_nil g2
      subst e
      refine ⟨g1, hF, ?_, ?_, fun k x hk => ?_, fun k _ => rfl⟩
      · show _ = some (Sum.inl (zn + (0 : Int)))
        rw [Int.add_zero]
      · show zn + (0 : Int) ≤ 60
        omega
      · simp [wk_row] at hk
    · intro c1 c2
      exfalso; omega
    · intro c1 c2
      exfalso; omega
  | succ N ih =>
    intro zu zn h hS hF h1 h2 h3 h4 ou
    have on : mi_in zn := ⟨by omega, by omega⟩
    have hU := hC.1
    have e124 : ∀ i, mi_a h 124 i = mi_a h0 124 i := fun i => me_a (k := 124) hF hS0 rfl rfl
    have e125 : ∀ i, mi_a h 125 i = mi_a h0 125 i := fun i => me_a (k := 125) hF hS0 rfl rfl
    refine mt_liB hS of on ou ?_ ?_ ?_
    · intro c h1' g1 g2
      have e := me_nil g2
      subst e
      have er : wk_row (mi_a h0) (N + 1) zu = [] := by unfold wk_row; rw [if_pos c]
      rw [er]
      refine ⟨g1, hF, ?_, ?_, fun k x hk => by simp at hk, fun k _ => rfl⟩
      · show _ = some (Sum.inl (zn + (0 : Int)))
        rw [Int.add_zero]
      · show zn + (0 : Int) ≤ 60
        omega
    · intro c1 c2
      have hz : zu < U ∧ zn ≤ zu := by omega
      rw [e124] at c2
      obtain ⟨k1, k2⟩ := hC.2 zu c1 hz.1
      have b125 := me_ab (k := 125) (i := zu.toNat) hS rfl (by decide) (by omega)
      refine ⟨by omega, fun h1' g1 g2 g3 => ?_⟩
      have er : wk_row (mi_a h0) (N + 1) zu = zu :: wk_row (mi_a h0) N (mi_a h0 125 zu.toNat) := by rw [wk_row, if_neg (by omega), if_neg (by omega)]
      rw [er]
      rw [e125] at b125 ⊢
      refine (ih (mi_a h0 125 zu.toNat) (zn + 1) h1' g1 (hF.trans g3) (by omega) (by omega) ?_ ?_ ⟨by omega, by omega⟩).imp (fun w h' hq => ?_)
      · by_cases h0' : 0 ≤ mi_a h0 125 zu.toNat
        · have := k2 h0'
          exact Or.inr ⟨this.1, by omega⟩
        · exact Or.inl (by omega)
      · by_cases h0' : 0 ≤ mi_a h0 125 zu.toNat
        · have := k2 h0'
          exact Or.inr (by omega)
        · exact Or.inl (by omega)
      · obtain ⟨q1, q2, q3, q4, q5, q6⟩ := hq
        have el : (((zu :: wk_row (mi_a h0) N (mi_a h0 125 zu.toNat)).length : Nat) : Int) = 1 + ((wk_row (mi_a h0) N (mi_a h0 125 zu.toNat)).length : Int) := by rw [List.length_cons]; omega
        refine ⟨q1, q2, ?_, by rw [el]; omega, fun k x hk => ?_, fun k hk => ?_⟩
        · rw [q3, el, Int.add_assoc]
        · cases k with
          | zero =>
            simp at hk
            subst hk
            refine ⟨?_, c1, hz.1⟩
            rw [Nat.add_zero, q6 _ (by omega), g2, if_pos rfl]
          | succ k =>
            simp at hk
            have := q5 k x hk
            have e : zn.toNat + (k + 1) = (zn + 1).toNat + k := by omega
            rw [e]
            exact this
        · rw [q6 k (by omega), g2, if_neg (by omega)]
    · intro c1 c2
      have hz : zu < U ∧ zn ≤ zu := by omega
      rw [e124] at c2
      obtain ⟨k1, k2⟩ := hC.2 zu c1 hz.1
      have k1 := k1 c2
      have b125 := me_ab (k := 125) (i := zu.toNat) hS rfl (by decide) (by omega)
      rw [e125] at b125
      rw [e124]
      refine ⟨by omega, fun h1' g1 g2 g3 => ?_⟩
      have er : wk_row (mi_a h0) (N + 1) zu = zu :: mi_a h0 124 zu.toNat :: wk_row (mi_a h0) N (mi_a h0 125 zu.toNat) := by rw [wk_row, if_neg (by omega), if_pos c2]
      rw [er]
      rw [e125]
      refine (ih (mi_a h0 125 zu.toNat) (zn + 1 + 1) h1' g1 (hF.trans g3) (by omega) (by omega) ?_ ?_ ⟨by omega, by omega⟩).imp (fun w h' hq => ?_)
      · by_cases h0' : 0 ≤ mi_a h0 125 zu.toNat
        · have b := k2 h0'
          have := b.2.2 c2
          exact Or.inr ⟨b.1, by omega⟩
        · exact Or.inl (by omega)
      · by_cases h0' : 0 ≤ mi_a h0 125 zu.toNat
        · have := k2 h0'
          exact Or.inr (by omega)
        · exact Or.inl (by omega)
      · obtain ⟨q1, q2, q3, q4, q5, q6⟩ := hq
        have el : (((zu :: mi_a h0 124 zu.toNat :: wk_row (mi_a h0) N (mi_a h0 125 zu.toNat)).length : Nat) : Int) = 2 + ((wk_row (mi_a h0) N (mi_a h0 125 zu.toNat)).length : Int) := by rw [List.length_cons, List.length_cons]; omega
        refine ⟨q1, q2, ?_, by rw [el]; omega, fun k x hk => ?_, fun k hk => ?_⟩
        · rw [q3, el]
          congr 2
          omega
        · cases k with
          | zero =>
            simp at hk
            subst hk
            refine ⟨?_, c1, hz.1⟩
            rw [Nat.add_zero, q6 _ (by omega), g2, if_neg (by omega), if_pos rfl]
          | succ k =>
            cases k with
            | zero =>
              simp at hk
              subst hk
              refine ⟨?_, c2, k1.1⟩
              rw [q6 _ (by omega), g2, if_pos (by omega)]
            | succ k =>
              simp at hk
              have := q5 k x hk
              have e : zn.toNat + (k + 1 + 1) = (zn + 1 + 1).toNat + k := by omega
              rw [e]
              exact this
        · rw [q6 k (by omega), g2, if_neg (by omega), if_neg (by omega)]
theorem me_line (hS : ab_Sh sx_sk h0) (hC : wk_C (mi_a h0) U) (hf0 : 0 ≤ zf) (hf1 : zf < 80) (hu : mi_a h0 126 zf.toNat < 0 ∨ mi_a h0 126 zf.toNat < U) : me_E d 197 0 [some (.inr (.inr 109)), some (.inl zf), none, none] [] h0 (fun w h' => ab_Sh sx_sk h' ∧ ab_Fr [(18560, 18561)] h0 h' ∧ w = some (.inl ((wk_row (mi_a h0) 61 (mi_a h0 126 zf.toNat)).length : Int)) ∧ ((wk_row (mi_a h0) 61 (mi_a h0 126 zf.toNat)).length : Int) ≤ 60 ∧ ∀ (k : Nat) (x : Int), (wk_row (mi_a h0) 61 (mi_a h0 126 zf.toNat))[k]? = some x → mi_a h' 145 k = x ∧ 0 ≤ x ∧ x < U) := by
  have of : mi_in zf := ⟨by omega, by omega⟩
  have hU := hC.1
  have b126 := me_ab (k := 126) (i := zf.toNat) hS rfl (by decide) (by omega)
  refine mt_liA hS of ?_
  refine ⟨by omega, fun h1 g1 g2 => ?_⟩
  have e := me_nil g2
  subst e
  refine (me_liB hS hC of 61 (mi_a h1 126 zf.toNat) 0 h1 hS ab_Fr.refl (by decide) (by decide) ?_ (by omega) ⟨by omega, by omega⟩).imp (fun w h' hq => ?_)
  · rcases hu with e | e
    · exact Or.inl e
    · by_cases h0' : 0 ≤ mi_a h1 126 zf.toNat
      · exact Or.inr ⟨e, h0'⟩
      · exact Or.inl (by omega)
  · obtain ⟨q1, q2, q3, q4, q5, q6⟩ := hq
    refine ⟨q1, q2, by rw [q3, Int.zero_add], by omega, fun k x hk => ?_⟩
    have := q5 k x hk
    simpa using this
end LIN
/-! segments: choose -/
theorem mi_okL_o {o : Option mi_V} {r : mi_L} (ho : ∀ v, o = some v → mi_ok v) (hr : mi_okL r) : mi_okL (o :: r) := fun w hw => by
  rcases List.mem_cons.mp hw with e | hw
  · exact ho w e.symm
  · exact hr w hw
set_option maxRecDepth 20000 in
theorem mp_chA_0 (h : sm_H) (d : Nat) (zf : Int) : mi_path [(223, (6, 0, sb_223))] sx_sk h 13 [1] (d + 6, 223, 0, [some (.inr (.inr 109)), some (.inl (zf)), none, none, none, none], [], [], []) = some ((d + 6, 223, 146, [some (.inr (.inr 109)), some (.inl (zf)), some (.inl ((0 : Int))), some (.inl (mi_a h 129 (Int.toNat zf))), none, none], [], [], []), [0 ≤ zf ∧ zf < 80, 0 ≤ zf ∧ zf < 80, (mi_a h 130 (Int.toNat zf)) ≤ ((1 : Int))]) := rfl
theorem mi_tab_chA_0 : ∀ e ∈ ([(223, (6, 0, sb_223))] : mi_T), sc_P e.1 = some e.2 := mi_tb mi_P223 (mi_tb_e)
set_option maxRecDepth 20000 in
theorem ms_chA_0 {h : sm_H} {d : Nat} {Q : Option mi_V → sm_H → Prop} {zf : Int} (hS : ab_Sh sx_sk h) (ok_zf : mi_in zf) (ho : (0 ≤ zf ∧ zf < 80) ∧ (0 ≤ zf ∧ zf < 80) ∧ ((mi_a h 130 (Int.toNat zf)) ≤ ((1 : Int)))) (kon : ∀ h1, me_W [] h h1 → me_E (d + 6) 223 146 [some (.inr (.inr 109)), some (.inl (zf)), some (.inl ((0 : Int))), some (.inl (mi_a h 129 (Int.toNat zf))), none, none] [] h1 Q) : me_E (d + 6) 223 0 [some (.inr (.inr 109)), some (.inl (zf)), none, none, none, none] [] h Q := me_seg (mp_chA_0 h d zf) (mi_tab_chA_0) hS (mi_okL_c (trivial) (mi_okL_c (ok_zf) (mi_okL_n (mi_okL_n (mi_okL_n (mi_okL_n (mi_okL_e))))))) (mi_okS_e) (mi_al (ho.1) (mi_al (ho.2.1) (mi_al (ho.2.2) (mi_al_e)))) (fun h1 W _ hst => kon h1 W)
set_option maxRecDepth 20000 in
theorem mp_chA_1 (h : sm_H) (d : Nat) (zf : Int) : mi_path [(223, (6, 0, sb_223))] sx_sk h 28 [0, 1, 1, 1] (d + 6, 223, 0, [some (.inr (.inr 109)), some (.inl (zf)), none, none, none, none], [], [], []) = some ((d + 6, 223, 77, [some (.inr (.inr 109)), some (.inl (zf)), some (.inl ((0 : Int))), some (.inl (mi_a h 129 (Int.toNat zf))), none, none], [.inl (mi_a h 130 (Int.toNat zf)), .inr (.inr 109)], [], []), [0 ≤ zf ∧ zf < 80, 0 ≤ zf ∧ zf < 80, ((1 : Int)) < (mi_a h 130 (Int.toNat zf)), (mi_f h 14028) ≠ ((0 : Int)), (mi_f h 14028) ≠ ((2 : Int)), ((0 : Int)) ≤ (mi_f h 14035), 0 ≤ zf ∧ zf < 80]) := rfl
theorem mi_tab_chA_1 : ∀ e ∈ ([(223, (6, 0, sb_223))] : mi_T), sc_P e.1 = some e.2 := mi_tb mi_P223 (mi_tb_e)
set_option maxRecDepth 20000 in
theorem ms_chA_1 {h : sm_H} {d : Nat} {Q : Option mi_V → sm_H → Prop} {zf : Int} (hS : ab_Sh sx_sk h) (ok_zf : mi_in zf) (ho : (0 ≤ zf ∧ zf < 80) ∧ (0 ≤ zf ∧ zf < 80) ∧ (((1 : Int)) < (mi_a h 130 (Int.toNat zf))) ∧ ((mi_f h 14028) ≠ ((0 : Int))) ∧ ((mi_f h 14028) ≠ ((2 : Int))) ∧ (((0 : Int)) ≤ (mi_f h 14035)) ∧ (0 ≤ zf ∧ zf < 80)) (kon : ∀ h1, me_W [] h h1 → ∃ Q1, me_E (d + 5) 211 0 (mi_entry 2 [.inr (.inr 109), .inl (mi_a h 130 (Int.toNat zf))]) [] h1 Q1 ∧ ∀ w h2, (∀ x, w = some x → mi_ok x) → Q1 w h2 → me_E (d + 6) 223 80 [some (.inr (.inr 109)), some (.inl (zf)), some (.inl ((0 : Int))), some (.inl (mi_a h 129 (Int.toNat zf))), none, none] (mi_back w []) h2 Q) : me_E (d + 6) 223 0 [some (.inr (.inr 109)), some (.inl (zf)), none, none, none, none] [] h Q := me_seg (mp_chA_1 h d zf) (mi_tab_chA_1) hS (mi_okL_c (trivial) (mi_okL_c (ok_zf) (mi_okL_n (mi_okL_n (mi_okL_n (mi_okL_n (mi_okL_e))))))) (mi_okS_e) (mi_al (ho.1) (mi_al (ho.2.1) (mi_al (ho.2.2.1) (mi_al (ho.2.2.2.1) (mi_al (ho.2.2.2.2.1) (mi_al (ho.2.2.2.2.2.1) (mi_al (ho.2.2.2.2.2.2) (mi_al_e)))))))) (fun h1 W _ hst => let ⟨_, k1, k2⟩ := kon h1 W; me_call (M := (6, 0, sb_223)) (M' := (2, 1, sb_211)) rfl rfl rfl rfl (Nat.le_of_ble_eq_true rfl) (Nat.le_of_ble_eq_true rfl) W.1 k1 k2)
set_option maxRecDepth 20000 in
theorem mp_chA_2 (h : sm_H) (d : Nat) (zf : Int) : mi_path [(223, (6, 0, sb_223))] sx_sk h 25 [0, 1, 1, 0] (d + 6, 223, 0, [some (.inr (.inr 109)), some (.inl (zf)), none, none, none, none], [], [], []) = some ((d + 6, 223, 64, [some (.inr (.inr 109)), some (.inl (zf)), some (.inl ((0 : Int))), some (.inl (mi_a h 129 (Int.toNat zf))), none, none], [.inl (zf), .inr (.inr 109)], [], []), [0 ≤ zf ∧ zf < 80, 0 ≤ zf ∧ zf < 80, ((1 : Int)) < (mi_a h 130 (Int.toNat zf)), (mi_f h 14028) ≠ ((0 : Int)), (mi_f h 14028) ≠ ((2 : Int)), (mi_f h 14035) < ((0 : Int))]) := rfl
theorem mi_tab_chA_2 : ∀ e ∈ ([(223, (6, 0, sb_223))] : mi_T), sc_P e.1 = some e.2 := mi_tb mi_P223 (mi_tb_e)
set_option maxRecDepth 20000 in
theorem ms_chA_2 {h : sm_H} {d : Nat} {Q : Option mi_V → sm_H → Prop} {zf : Int} (hS : ab_Sh sx_sk h) (ok_zf : mi_in zf) (ho : (0 ≤ zf ∧ zf < 80) ∧ (0 ≤ zf ∧ zf < 80) ∧ (((1 : Int)) < (mi_a h 130 (Int.toNat zf))) ∧ ((mi_f h 14028) ≠ ((0 : Int))) ∧ ((mi_f h 14028) ≠ ((2 : Int))) ∧ ((mi_f h 14035) < ((0 : Int)))) (kon : ∀ h1, me_W [] h h1 → ∃ Q1, me_E (d + 5) 225 0 (mi_entry 6 [.inr (.inr 109), .inl (zf)]) [] h1 Q1 ∧ ∀ w h2, (∀ x, w = some x → mi_ok x) → Q1 w h2 → me_E (d + 6) 223 67 [some (.inr (.inr 109)), some (.inl (zf)), some (.inl ((0 : Int))), some (.inl (mi_a h 129 (Int.toNat zf))), none, none] (mi_back w []) h2 Q) : me_E (d + 6) 223 0 [some (.inr (.inr 109)), some (.inl (zf)), none, none, none, none] [] h Q := me_seg (mp_chA_2 h d zf) (mi_tab_chA_2) hS (mi_okL_c (trivial) (mi_okL_c (ok_zf) (mi_okL_n (mi_okL_n (mi_okL_n (mi_okL_n (mi_okL_e))))))) (mi_okS_e) (mi_al (ho.1) (mi_al (ho.2.1) (mi_al (ho.2.2.1) (mi_al (ho.2.2.2.1) (mi_al (ho.2.2.2.2.1) (mi_al (ho.2.2.2.2.2) (mi_al_e))))))) (fun h1 W _ hst => let ⟨_, k1, k2⟩ := kon h1 W; me_call (M := (6, 0, sb_223)) (M' := (6, 1, sb_225)) rfl rfl rfl rfl (Nat.le_of_ble_eq_true rfl) (Nat.le_of_ble_eq_true rfl) W.1 k1 k2)
set_option maxRecDepth 20000 in
theorem mp_chA_3 (h : sm_H) (d : Nat) (zf : Int) : mi_path [(223, (6, 0, sb_223))] sx_sk h 27 [0, 1, 0] (d + 6, 223, 0, [some (.inr (.inr 109)), some (.inl (zf)), none, none, none, none], [], [], []) = some ((d + 6, 223, 80, [some (.inr (.inr 109)), some (.inl (zf)), some (.inl ((0 : Int))), some (.inl (mi_a h 129 (Int.toNat zf))), none, none], [.inl ((mx_b h 162 (Int.toNat (mi_f h 14033))).toInt32.toInt)], [], []), [0 ≤ zf ∧ zf < 80, 0 ≤ zf ∧ zf < 80, ((1 : Int)) < (mi_a h 130 (Int.toNat zf)), (mi_f h 14028) ≠ ((0 : Int)), (mi_f h 14028) = ((2 : Int)), 0 ≤ (mi_f h 14033) ∧ (mi_f h 14033) < 100]) := rfl
theorem mi_tab_chA_3 : ∀ e ∈ ([(223, (6, 0, sb_223))] : mi_T), sc_P e.1 = some e.2 := mi_tb mi_P223 (mi_tb_e)
set_option maxRecDepth 20000 in
theorem ms_chA_3 {h : sm_H} {d : Nat} {Q : Option mi_V → sm_H → Prop} {zf : Int} (hS : ab_Sh sx_sk h) (ok_zf : mi_in zf) (ho : (0 ≤ zf ∧ zf < 80) ∧ (0 ≤ zf ∧ zf < 80) ∧ (((1 : Int)) < (mi_a h 130 (Int.toNat zf))) ∧ ((mi_f h 14028) ≠ ((0 : Int))) ∧ ((mi_f h 14028) = ((2 : Int))) ∧ (0 ≤ (mi_f h 14033) ∧ (mi_f h 14033) < 100)) (kon : ∀ h1, me_W [] h h1 → me_E (d + 6) 223 80 [some (.inr (.inr 109)), some (.inl (zf)), some (.inl ((0 : Int))), some (.inl (mi_a h 129 (Int.toNat zf))), none, none] [.inl ((mx_b h 162 (Int.toNat (mi_f h 14033))).toInt32.toInt)] h1 Q) : me_E (d + 6) 223 0 [some (.inr (.inr 109)), some (.inl (zf)), none, none, none, none] [] h Q := me_seg (mp_chA_3 h d zf) (mi_tab_chA_3) hS (mi_okL_c (trivial) (mi_okL_c (ok_zf) (mi_okL_n (mi_okL_n (mi_okL_n (mi_okL_n (mi_okL_e))))))) (mi_okS_e) (mi_al (ho.1) (mi_al (ho.2.1) (mi_al (ho.2.2.1) (mi_al (ho.2.2.2.1) (mi_al (ho.2.2.2.2.1) (mi_al (ho.2.2.2.2.2) (mi_al_e))))))) (fun h1 W _ hst => kon h1 W)
set_option maxRecDepth 20000 in
theorem mp_chA_4 (h : sm_H) (d : Nat) (zf : Int) : mi_path [(223, (6, 0, sb_223))] sx_sk h 18 [0, 0] (d + 6, 223, 0, [some (.inr (.inr 109)), some (.inl (zf)), none, none, none, none], [], [], []) = some ((d + 6, 223, 28, [some (.inr (.inr 109)), some (.inl (zf)), some (.inl ((0 : Int))), some (.inl (mi_a h 129 (Int.toNat zf))), none, none], [.inl (zf), .inr (.inr 109)], [], []), [0 ≤ zf ∧ zf < 80, 0 ≤ zf ∧ zf < 80, ((1 : Int)) < (mi_a h 130 (Int.toNat zf)), (mi_f h 14028) = ((0 : Int))]) := rfl
theorem mi_tab_chA_4 : ∀ e ∈ ([(223, (6, 0, sb_223))] : mi_T), sc_P e.1 = some e.2 := mi_tb mi_P223 (mi_tb_e)
set_option maxRecDepth 20000 in
theorem ms_chA_4 {h : sm_H} {d : Nat} {Q : Option mi_V → sm_H → Prop} {zf : Int} (hS : ab_Sh sx_sk h) (ok_zf : mi_in zf) (ho : (0 ≤ zf ∧ zf < 80) ∧ (0 ≤ zf ∧ zf < 80) ∧ (((1 : Int)) < (mi_a h 130 (Int.toNat zf))) ∧ ((mi_f h 14028) = ((0 : Int)))) (kon : ∀ h1, me_W [] h h1 → ∃ Q1, me_E (d + 5) 224 0 (mi_entry 4 [.inr (.inr 109), .inl (zf)]) [] h1 Q1 ∧ ∀ w h2, (∀ x, w = some x → mi_ok x) → Q1 w h2 → me_E (d + 6) 223 31 [some (.inr (.inr 109)), some (.inl (zf)), some (.inl ((0 : Int))), some (.inl (mi_a h 129 (Int.toNat zf))), none, none] (mi_back w []) h2 Q) : me_E (d + 6) 223 0 [some (.inr (.inr 109)), some (.inl (zf)), none, none, none, none] [] h Q := me_seg (mp_chA_4 h d zf) (mi_tab_chA_4) hS (mi_okL_c (trivial) (mi_okL_c (ok_zf) (mi_okL_n (mi_okL_n (mi_okL_n (mi_okL_n (mi_okL_e))))))) (mi_okS_e) (mi_al (ho.1) (mi_al (ho.2.1) (mi_al (ho.2.2.1) (mi_al (ho.2.2.2) (mi_al_e))))) (fun h1 W _ hst => let ⟨_, k1, k2⟩ := kon h1 W; me_call (M := (6, 0, sb_223)) (M' := (4, 1, sb_224)) rfl rfl rfl rfl (Nat.le_of_ble_eq_true rfl) (Nat.le_of_ble_eq_true rfl) W.1 k1 k2)
set_option maxRecDepth 20000 in
theorem mt_chA {h : sm_H} {d : Nat} {Q : Option mi_V → sm_H → Prop} {zf : Int} (hS : ab_Sh sx_sk h) (ok_zf : mi_in zf) (k0 : ((mi_a h 130 (Int.toNat zf)) ≤ ((1 : Int))) → ((0 ≤ zf ∧ zf < 80)) ∧ (∀ h1, ab_Sh sx_sk h1 → ab_Fr [] h h1 → me_E (d + 6) 223 146 [some (.inr (.inr 109)), some (.inl (zf)), some (.inl ((0 : Int))), some (.inl (mi_a h 129 (Int.toNat zf))), none, none] [] h1 Q)) (k1 : ((-2147483648) ≤ mi_f h 14028 ∧ mi_f h 14028 ≤ 2147483647) → ((-2147483648) ≤ mi_f h 14035 ∧ mi_f h 14035 ≤ 2147483647) → (((1 : Int)) < (mi_a h 130 (Int.toNat zf))) → ((mi_f h 14028) ≠ ((0 : Int))) → ((mi_f h 14028) ≠ ((2 : Int))) → (((0 : Int)) ≤ (mi_f h 14035)) → ((0 ≤ zf ∧ zf < 80)) ∧ (∀ h1, ab_Sh sx_sk h1 → ab_Fr [] h h1 → ∃ Q1, me_E (d + 5) 211 0 (mi_entry 2 [.inr (.inr 109), .inl (mi_a h 130 (Int.toNat zf))]) [] h1 Q1 ∧ ∀ w h2, (∀ x, w = some x → mi_ok x) → Q1 w h2 → me_E (d + 6) 223 80 [some (.inr (.inr 109)), some (.inl (zf)), some (.inl ((0 : Int))), some (.inl (mi_a h 129 (Int.toNat zf))), none, none] (mi_back w []) h2 Q)) (k2 : ((-2147483648) ≤ mi_f h 14028 ∧ mi_f h 14028 ≤ 2147483647) → ((-2147483648) ≤ mi_f h 14035 ∧ mi_f h 14035 ≤ 2147483647) → (((1 : Int)) < (mi_a h 130 (Int.toNat zf))) → ((mi_f h 14028) ≠ ((0 : Int))) → ((mi_f h 14028) ≠ ((2 : Int))) → ((mi_f h 14035) < ((0 : Int))) → ((0 ≤ zf ∧ zf < 80)) ∧ (∀ h1, ab_Sh sx_sk h1 → ab_Fr [] h h1 → ∃ Q1, me_E (d + 5) 225 0 (mi_entry 6 [.inr (.inr 109), .inl (zf)]) [] h1 Q1 ∧ ∀ w h2, (∀ x, w = some x → mi_ok x) → Q1 w h2 → me_E (d + 6) 223 67 [some (.inr (.inr 109)), some (.inl (zf)), some (.inl ((0 : Int))), some (.inl (mi_a h 129 (Int.toNat zf))), none, none] (mi_back w []) h2 Q)) (k3 : ((-2147483648) ≤ mi_f h 14028 ∧ mi_f h 14028 ≤ 2147483647) → ((-2147483648) ≤ mi_f h 14033 ∧ mi_f h 14033 ≤ 2147483647) → (((1 : Int)) < (mi_a h 130 (Int.toNat zf))) → ((mi_f h 14028) ≠ ((0 : Int))) → ((mi_f h 14028) = ((2 : Int))) → ((0 ≤ zf ∧ zf < 80) ∧ (0 ≤ (mi_f h 14033) ∧ (mi_f h 14033) < 100)) ∧ (∀ h1, ab_Sh sx_sk h1 → ab_Fr [] h h1 → me_E (d + 6) 223 80 [some (.inr (.inr 109)), some (.inl (zf)), some (.inl ((0 : Int))), some (.inl (mi_a h 129 (Int.toNat zf))), none, none] [.inl ((mx_b h 162 (Int.toNat (mi_f h 14033))).toInt32.toInt)] h1 Q)) (k4 : ((-2147483648) ≤ mi_f h 14028 ∧ mi_f h 14028 ≤ 2147483647) → (((1 : Int)) < (mi_a h 130 (Int.toNat zf))) → ((mi_f h 14028) = ((0 : Int))) → ((0 ≤ zf ∧ zf < 80)) ∧ (∀ h1, ab_Sh sx_sk h1 → ab_Fr [] h h1 → ∃ Q1, me_E (d + 5) 224 0 (mi_entry 4 [.inr (.inr 109), .inl (zf)]) [] h1 Q1 ∧ ∀ w h2, (∀ x, w = some x → mi_ok x) → Q1 w h2 → me_E (d + 6) 223 31 [some (.inr (.inr 109)), some (.inl (zf)), some (.inl ((0 : Int))), some (.inl (mi_a h 129 (Int.toNat zf))), none, none] (mi_back w []) h2 Q)) : me_E (d + 6) 223 0 [some (.inr (.inr 109)), some (.inl (zf)), none, none, none, none] [] h Q := Or.elim (mi_em .le ((mi_a h 130 (Int.toNat zf))) (((1 : Int)))) (fun c0 => ms_chA_0 hS ok_zf ⟨(k0 c0).1, (k0 c0).1, c0⟩ (fun h1 W => (k0 c0).2 h1 W.1 (W.2.2.2.2.2 _ rfl))) (fun c0 => Or.elim (mi_em .ne ((mi_f h 14028)) (((0 : Int)))) (fun c1 => Or.elim (mi_em .ne ((mi_f h 14028)) (((2 : Int)))) (fun c2 => Or.elim (mi_em .ge ((mi_f h 14035)) (((0 : Int)))) (fun c3 => ms_chA_1 hS ok_zf ⟨(k1 (me_fb hS rfl) (me_fb hS rfl) c0 c1 c2 c3).1, (k1 (me_fb hS rfl) (me_fb hS rfl) c0 c1 c2 c3).1, c0, c1, c2, c3, (k1 (me_fb hS rfl) (me_fb hS rfl) c0 c1 c2 c3).1⟩ (fun h1 W => (k1 (me_fb hS rfl) (me_fb hS rfl) c0 c1 c2 c3).2 h1 W.1 (W.2.2.2.2.2 _ rfl))) (fun c3 => ms_chA_2 hS ok_zf ⟨(k2 (me_fb hS rfl) (me_fb hS rfl) c0 c1 c2 c3).1, (k2 (me_fb hS rfl) (me_fb hS rfl) c0 c1 c2 c3).1, c0, c1, c2, c3⟩ (fun h1 W => (k2 (me_fb hS rfl) (me_fb hS rfl) c0 c1 c2 c3).2 h1 W.1 (W.2.2.2.2.2 _ rfl)))) (fun c2 => ms_chA_3 hS ok_zf ⟨(k3 (me_fb hS rfl) (me_fb hS rfl) c0 c1 c2).1.1, (k3 (me_fb hS rfl) (me_fb hS rfl) c0 c1 c2).1.1, c0, c1, c2, (k3 (me_fb hS rfl) (me_fb hS rfl) c0 c1 c2).1.2⟩ (fun h1 W => (k3 (me_fb hS rfl) (me_fb hS rfl) c0 c1 c2).2 h1 W.1 (W.2.2.2.2.2 _ rfl)))) (fun c1 => ms_chA_4 hS ok_zf ⟨(k4 (me_fb hS rfl) c0 c1).1, (k4 (me_fb hS rfl) c0 c1).1, c0, c1⟩ (fun h1 W => (k4 (me_fb hS rfl) c0 c1).2 h1 W.1 (W.2.2.2.2.2 _ rfl))))
set_option maxRecDepth 20000 in
theorem mp_chB_0 (h : sm_H) (d : Nat) (zf z2 zc zz : Int) : mi_path [(223, (6, 0, sb_223))] sx_sk h 1 [] (d + 6, 223, 31, [some (.inr (.inr 109)), some (.inl (zf)), some (.inl (z2)), some (.inl (zc)), none, none], [.inl (zz)], [], []) = some ((d + 6, 223, 80, [some (.inr (.inr 109)), some (.inl (zf)), some (.inl (z2)), some (.inl (zc)), none, none], [.inl (zz)], [], []), []) := rfl
theorem mi_tab_chB_0 : ∀ e ∈ ([(223, (6, 0, sb_223))] : mi_T), sc_P e.1 = some e.2 := mi_tb mi_P223 (mi_tb_e)
set_option maxRecDepth 20000 in
theorem ms_chB_0 {h : sm_H} {d : Nat} {Q : Option mi_V → sm_H → Prop} {zf z2 zc zz : Int} (hS : ab_Sh sx_sk h) (ok_zf : mi_in zf) (ok_z2 : mi_in z2) (ok_zc : mi_in zc) (ok_zz : mi_in zz) (kon : ∀ h1, me_W [] h h1 → me_E (d + 6) 223 80 [some (.inr (.inr 109)), some (.inl (zf)), some (.inl (z2)), some (.inl (zc)), none, none] [.inl (zz)] h1 Q) : me_E (d + 6) 223 31 [some (.inr (.inr 109)), some (.inl (zf)), some (.inl (z2)), some (.inl (zc)), none, none] [.inl (zz)] h Q := me_seg (mp_chB_0 h d zf z2 zc zz) (mi_tab_chB_0) hS (mi_okL_c (trivial) (mi_okL_c (ok_zf) (mi_okL_c (ok_z2) (mi_okL_c (ok_zc) (mi_okL_n (mi_okL_n (mi_okL_e))))))) (mi_okS_cons (ok_zz) (mi_okS_e)) (mi_al_e) (fun h1 W _ hst => kon h1 W)
set_option maxRecDepth 20000 in
theorem mt_chB {h : sm_H} {d : Nat} {Q : Option mi_V → sm_H → Prop} {zf z2 zc zz : Int} (hS : ab_Sh sx_sk h) (ok_zf : mi_in zf) (ok_z2 : mi_in z2) (ok_zc : mi_in zc) (ok_zz : mi_in zz) (k0 : (∀ h1, ab_Sh sx_sk h1 → ab_Fr [] h h1 → me_E (d + 6) 223 80 [some (.inr (.inr 109)), some (.inl (zf)), some (.inl (z2)), some (.inl (zc)), none, none] [.inl (zz)] h1 Q)) : me_E (d + 6) 223 31 [some (.inr (.inr 109)), some (.inl (zf)), some (.inl (z2)), some (.inl (zc)), none, none] [.inl (zz)] h Q := ms_chB_0 hS ok_zf ok_z2 ok_zc ok_zz (fun h1 W => (k0) h1 W.1 (W.2.2.2.2.2 _ rfl))
set_option maxRecDepth 20000 in
theorem mp_chC_0 (h : sm_H) (d : Nat) (zf z2 zc zz : Int) : mi_path [(223, (6, 0, sb_223))] sx_sk h 1 [] (d + 6, 223, 67, [some (.inr (.inr 109)), some (.inl (zf)), some (.inl (z2)), some (.inl (zc)), none, none], [.inl (zz)], [], []) = some ((d + 6, 223, 80, [some (.inr (.inr 109)), some (.inl (zf)), some (.inl (z2)), some (.inl (zc)), none, none], [.inl (zz)], [], []), []) := rfl
theorem mi_tab_chC_0 : ∀ e ∈ ([(223, (6, 0, sb_223))] : mi_T), sc_P e.1 = some e.2 := mi_tb mi_P223 (mi_tb_e)
set_option maxRecDepth 20000 in
theorem ms_chC_0 {h : sm_H} {d : Nat} {Q : Option mi_V → sm_H → Prop} {zf z2 zc zz : Int} (hS : ab_Sh sx_sk h) (ok_zf : mi_in zf) (ok_z2 : mi_in z2) (ok_zc : mi_in zc) (ok_zz : mi_in zz) (kon : ∀ h1, me_W [] h h1 → me_E (d + 6) 223 80 [some (.inr (.inr 109)), some (.inl (zf)), some (.inl (z2)), some (.inl (zc)), none, none] [.inl (zz)] h1 Q) : me_E (d + 6) 223 67 [some (.inr (.inr 109)), some (.inl (zf)), some (.inl (z2)), some (.inl (zc)), none, none] [.inl (zz)] h Q := me_seg (mp_chC_0 h d zf z2 zc zz) (mi_tab_chC_0) hS (mi_okL_c (trivial) (mi_okL_c (ok_zf) (mi_okL_c (ok_z2) (mi_okL_c (ok_zc) (mi_okL_n (mi_okL_n (mi_okL_e))))))) (mi_okS_cons (ok_zz) (mi_okS_e)) (mi_al_e) (fun h1 W _ hst => kon h1 W)
set_option maxRecDepth 20000 in
theorem mt_chC {h : sm_H} {d : Nat} {Q : Option mi_V → sm_H → Prop} {zf z2 zc zz : Int} (hS : ab_Sh sx_sk h) (ok_zf : mi_in zf) (ok_z2 : mi_in z2) (ok_zc : mi_in zc) (ok_zz : mi_in zz) (k0 : (∀ h1, ab_Sh sx_sk h1 → ab_Fr [] h h1 → me_E (d + 6) 223 80 [some (.inr (.inr 109)), some (.inl (zf)), some (.inl (z2)), some (.inl (zc)), none, none] [.inl (zz)] h1 Q)) : me_E (d + 6) 223 67 [some (.inr (.inr 109)), some (.inl (zf)), some (.inl (z2)), some (.inl (zc)), none, none] [.inl (zz)] h Q := ms_chC_0 hS ok_zf ok_z2 ok_zc ok_zz (fun h1 W => (k0) h1 W.1 (W.2.2.2.2.2 _ rfl))
set_option maxRecDepth 20000 in
theorem mp_chD_0 (h : sm_H) (d : Nat) (zf z2 zc zz : Int) : mi_path [(223, (6, 0, sb_223))] sx_sk h 3 [1] (d + 6, 223, 80, [some (.inr (.inr 109)), some (.inl (zf)), some (.inl (z2)), some (.inl (zc)), none, none], [.inl (zz)], [], []) = some ((d + 6, 223, 99, [some (.inr (.inr 109)), some (.inl (zf)), some (.inl (zz)), some (.inl (zc)), none, none], [], [], []), [((0 : Int)) ≤ zz]) := rfl
theorem mi_tab_chD_0 : ∀ e ∈ ([(223, (6, 0, sb_223))] : mi_T), sc_P e.1 = some e.2 := mi_tb mi_P223 (mi_tb_e)
set_option maxRecDepth 20000 in
theorem ms_chD_0 {h : sm_H} {d : Nat} {Q : Option mi_V → sm_H → Prop} {zf z2 zc zz : Int} (hS : ab_Sh sx_sk h) (ok_zf : mi_in zf) (ok_z2 : mi_in z2) (ok_zc : mi_in zc) (ok_zz : mi_in zz) (ho : (((0 : Int)) ≤ zz)) (kon : ∀ h1, me_W [] h h1 → me_E (d + 6) 223 99 [some (.inr (.inr 109)), some (.inl (zf)), some (.inl (zz)), some (.inl (zc)), none, none] [] h1 Q) : me_E (d + 6) 223 80 [some (.inr (.inr 109)), some (.inl (zf)), some (.inl (z2)), some (.inl (zc)), none, none] [.inl (zz)] h Q := me_seg (mp_chD_0 h d zf z2 zc zz) (mi_tab_chD_0) hS (mi_okL_c (trivial) (mi_okL_c (ok_zf) (mi_okL_c (ok_z2) (mi_okL_c (ok_zc) (mi_okL_n (mi_okL_n (mi_okL_e))))))) (mi_okS_cons (ok_zz) (mi_okS_e)) (mi_al (ho) (mi_al_e)) (fun h1 W _ hst => kon h1 W)
set_option maxRecDepth 20000 in
theorem mp_chD_1 (h : sm_H) (d : Nat) (zf z2 zc zz : Int) : mi_path [(223, (6, 0, sb_223))] sx_sk h 10 [0] (d + 6, 223, 80, [some (.inr (.inr 109)), some (.inl (zf)), some (.inl (z2)), some (.inl (zc)), none, none], [.inl (zz)], [], []) = some ((d + 6, 223, 98, [some (.inr (.inr 109)), some (.inl (zf)), some (.inl (zz)), some (.inl (zc)), none, none], [], [.inl (14034, mi_a h 153 (Int.toNat (mi_f h 14033)))], []), [zz < ((0 : Int)), 0 ≤ (mi_f h 14033) ∧ (mi_f h 14033) < 161]) := rfl
theorem mi_tab_chD_1 : ∀ e ∈ ([(223, (6, 0, sb_223))] : mi_T), sc_P e.1 = some e.2 := mi_tb mi_P223 (mi_tb_e)
set_option maxRecDepth 20000 in
theorem ms_chD_1 {h : sm_H} {d : Nat} {Q : Option mi_V → sm_H → Prop} {zf z2 zc zz : Int} (hS : ab_Sh sx_sk h) (ok_zf : mi_in zf) (ok_z2 : mi_in z2) (ok_zc : mi_in zc) (ok_zz : mi_in zz) (ho : (zz < ((0 : Int))) ∧ (0 ≤ (mi_f h 14033) ∧ (mi_f h 14033) < 161)) (kon : ∀ h1, me_W [.inl (14034, mi_a h 153 (Int.toNat (mi_f h 14033)))] h h1 → Q none h1) : me_E (d + 6) 223 80 [some (.inr (.inr 109)), some (.inl (zf)), some (.inl (z2)), some (.inl (zc)), none, none] [.inl (zz)] h Q := me_seg (mp_chD_1 h d zf z2 zc zz) (mi_tab_chD_1) hS (mi_okL_c (trivial) (mi_okL_c (ok_zf) (mi_okL_c (ok_z2) (mi_okL_c (ok_zc) (mi_okL_n (mi_okL_n (mi_okL_e))))))) (mi_okS_cons (ok_zz) (mi_okS_e)) (mi_al (ho.1) (mi_al (ho.2) (mi_al_e))) (fun h1 W _ hst => me_ret (M := (6, 0, sb_223)) rfl rfl rfl hst (mi_al_e) (kon h1 W))
set_option maxRecDepth 20000 in
theorem mt_chD {h : sm_H} {d : Nat} {Q : Option mi_V → sm_H → Prop} {zf z2 zc zz : Int} (hS : ab_Sh sx_sk h) (ok_zf : mi_in zf) (ok_z2 : mi_in z2) (ok_zc : mi_in zc) (ok_zz : mi_in zz) (k0 : (((0 : Int)) ≤ zz) → (∀ h1, ab_Sh sx_sk h1 → ab_Fr [] h h1 → me_E (d + 6) 223 99 [some (.inr (.inr 109)), some (.inl (zf)), some (.inl (zz)), some (.inl (zc)), none, none] [] h1 Q)) (k1 : ((-2147483648) ≤ mi_f h 14033 ∧ mi_f h 14033 ≤ 2147483647) → (zz < ((0 : Int))) → ((0 ≤ (mi_f h 14033) ∧ (mi_f h 14033) < 161)) ∧ (∀ h1, ab_Sh sx_sk h1 → mi_f h1 14034 = mi_a h 153 (Int.toNat (mi_f h 14033)) → ab_Fr [(14034, 14035)] h h1 → Q none h1)) : me_E (d + 6) 223 80 [some (.inr (.inr 109)), some (.inl (zf)), some (.inl (z2)), some (.inl (zc)), none, none] [.inl (zz)] h Q := Or.elim (mi_em .ge (zz) (((0 : Int)))) (fun c0 => ms_chD_0 hS ok_zf ok_z2 ok_zc ok_zz (c0) (fun h1 W => (k0 c0) h1 W.1 (W.2.2.2.2.2 _ rfl))) (fun c0 => ms_chD_1 hS ok_zf ok_z2 ok_zc ok_zz ⟨c0, (k1 (me_fb hS rfl) c0).1⟩ (fun h1 W => (k1 (me_fb hS rfl) c0).2 h1 W.1 (W.2.1 14034) (W.2.2.2.2.2 _ rfl)))
set_option maxRecDepth 20000 in
theorem mp_chD2_0 (h : sm_H) (d : Nat) (zf zn zc : Int) : mi_path [(223, (6, 0, sb_223))] sx_sk h 4 [] (d + 6, 223, 99, [some (.inr (.inr 109)), some (.inl (zf)), some (.inl (zn)), some (.inl (zc)), none, none], [], [], []) = some ((d + 6, 223, 103, [some (.inr (.inr 109)), some (.inl (zf)), some (.inl (zn)), some (.inl (zc)), none, none], [.inr (.inl ((Int32.ofInt zn).toInt64)), .inl ((4 : Int)), .inr (.inr 109)], [], []), []) := rfl
theorem mi_tab_chD2_0 : ∀ e ∈ ([(223, (6, 0, sb_223))] : mi_T), sc_P e.1 = some e.2 := mi_tb mi_P223 (mi_tb_e)
set_option maxRecDepth 20000 in
theorem ms_chD2_0 {h : sm_H} {d : Nat} {Q : Option mi_V → sm_H → Prop} {zf zn zc : Int} (hS : ab_Sh sx_sk h) (ok_zf : mi_in zf) (ok_zn : mi_in zn) (ok_zc : mi_in zc) (kon : ∀ h1, me_W [] h h1 → ∃ Q1, me_E (d + 5) 208 0 (mi_entry 4 [.inr (.inr 109), .inl ((4 : Int)), .inr (.inl ((Int32.ofInt zn).toInt64))]) [] h1 Q1 ∧ ∀ w h2, (∀ x, w = some x → mi_ok x) → Q1 w h2 → me_E (d + 6) 223 106 [some (.inr (.inr 109)), some (.inl (zf)), some (.inl (zn)), some (.inl (zc)), none, none] (mi_back w []) h2 Q) : me_E (d + 6) 223 99 [some (.inr (.inr 109)), some (.inl (zf)), some (.inl (zn)), some (.inl (zc)), none, none] [] h Q := me_seg (mp_chD2_0 h d zf zn zc) (mi_tab_chD2_0) hS (mi_okL_c (trivial) (mi_okL_c (ok_zf) (mi_okL_c (ok_zn) (mi_okL_c (ok_zc) (mi_okL_n (mi_okL_n (mi_okL_e))))))) (mi_okS_e) (mi_al_e) (fun h1 W _ hst => let ⟨_, k1, k2⟩ := kon h1 W; me_call (M := (6, 0, sb_223)) (M' := (4, 1, sb_208)) rfl rfl rfl rfl (Nat.le_of_ble_eq_true rfl) (Nat.le_of_ble_eq_true rfl) W.1 k1 k2)
set_option maxRecDepth 20000 in
theorem mt_chD2 {h : sm_H} {d : Nat} {Q : Option mi_V → sm_H → Prop} {zf zn zc : Int} (hS : ab_Sh sx_sk h) (ok_zf : mi_in zf) (ok_zn : mi_in zn) (ok_zc : mi_in zc) (k0 : (∀ h1, ab_Sh sx_sk h1 → ab_Fr [] h h1 → ∃ Q1, me_E (d + 5) 208 0 (mi_entry 4 [.inr (.inr 109), .inl ((4 : Int)), .inr (.inl ((Int32.ofInt zn).toInt64))]) [] h1 Q1 ∧ ∀ w h2, (∀ x, w = some x → mi_ok x) → Q1 w h2 → me_E (d + 6) 223 106 [some (.inr (.inr 109)), some (.inl (zf)), some (.inl (zn)), some (.inl (zc)), none, none] (mi_back w []) h2 Q)) : me_E (d + 6) 223 99 [some (.inr (.inr 109)), some (.inl (zf)), some (.inl (zn)), some (.inl (zc)), none, none] [] h Q := ms_chD2_0 hS ok_zf ok_zn ok_zc (fun h1 W => (k0) h1 W.1 (W.2.2.2.2.2 _ rfl))
set_option maxRecDepth 20000 in
theorem mp_chE_0 (h : sm_H) (d : Nat) (zf zn zc zw : Int) : mi_path [(223, (6, 0, sb_223)), (209, (4, 0, sb_209))] sx_sk h 38 [9, 8] (d + 6, 223, 106, [some (.inr (.inr 109)), some (.inl (zf)), some (.inl (zn)), some (.inl (zc)), none, none], [.inl (zw)], [], []) = some ((d + 6, 223, 127, [some (.inr (.inr 109)), some (.inl (zf)), some (.inl (zn)), some (.inl (zc)), some (.inl ((0 : Int))), none], [], [.inr (.inr (.inl (167, Int.toNat (mi_f h 14029), (0 : Int)))), .inl (14029, (mi_f h 14029) + ((1 : Int))), .inr (.inr (.inl (166, Int.toNat (mi_f h 14029), (0 : Int)))), .inr (.inr (.inl (165, Int.toNat (mi_f h 14029), (2 : Int)))), .inl (14031, (Int32.ofInt (mi_f h 14031) + Int32.ofInt ((1 : Int))).toInt)], []), [0 ≤ (mi_f h 14029) ∧ (mi_f h 14029) < 3000, 0 ≤ (mi_f h 14029) ∧ (mi_f h 14029) < 3000, -2147483648 ≤ (mi_f h 14029) + ((1 : Int)) ∧ (mi_f h 14029) + ((1 : Int)) ≤ 2147483647, 0 ≤ (mi_f h 14029) ∧ (mi_f h 14029) < 3000]) := rfl
theorem mi_tab_chE_0 : ∀ e ∈ ([(223, (6, 0, sb_223)), (209, (4, 0, sb_209))] : mi_T), sc_P e.1 = some e.2 := mi_tb mi_P223 (mi_tb mi_P209 (mi_tb_e))
set_option maxRecDepth 20000 in
theorem ms_chE_0 {h : sm_H} {d : Nat} {Q : Option mi_V → sm_H → Prop} {zf zn zc zw : Int} (hS : ab_Sh sx_sk h) (ok_zf : mi_in zf) (ok_zn : mi_in zn) (ok_zc : mi_in zc) (ok_zw : mi_in zw) (ho : (0 ≤ (mi_f h 14029) ∧ (mi_f h 14029) < 3000) ∧ (0 ≤ (mi_f h 14029) ∧ (mi_f h 14029) < 3000) ∧ (-2147483648 ≤ (mi_f h 14029) + ((1 : Int)) ∧ (mi_f h 14029) + ((1 : Int)) ≤ 2147483647) ∧ (0 ≤ (mi_f h 14029) ∧ (mi_f h 14029) < 3000)) (kon : ∀ h1, me_W [.inr (.inr (.inl (167, Int.toNat (mi_f h 14029), (0 : Int)))), .inl (14029, (mi_f h 14029) + ((1 : Int))), .inr (.inr (.inl (166, Int.toNat (mi_f h 14029), (0 : Int)))), .inr (.inr (.inl (165, Int.toNat (mi_f h 14029), (2 : Int)))), .inl (14031, (Int32.ofInt (mi_f h 14031) + Int32.ofInt ((1 : Int))).toInt)] h h1 → me_E (d + 6) 223 127 [some (.inr (.inr 109)), some (.inl (zf)), some (.inl (zn)), some (.inl (zc)), some (.inl ((0 : Int))), none] [] h1 Q) : me_E (d + 6) 223 106 [some (.inr (.inr 109)), some (.inl (zf)), some (.inl (zn)), some (.inl (zc)), none, none] [.inl (zw)] h Q := me_seg (mp_chE_0 h d zf zn zc zw) (mi_tab_chE_0) hS (mi_okL_c (trivial) (mi_okL_c (ok_zf) (mi_okL_c (ok_zn) (mi_okL_c (ok_zc) (mi_okL_n (mi_okL_n (mi_okL_e))))))) (mi_okS_cons (ok_zw) (mi_okS_e)) (mi_al (ho.1) (mi_al (ho.2.1) (mi_al (ho.2.2.1) (mi_al (ho.2.2.2) (mi_al_e))))) (fun h1 W _ hst => kon h1 W)
set_option maxRecDepth 20000 in
theorem mt_chE {h : sm_H} {d : Nat} {Q : Option mi_V → sm_H → Prop} {zf zn zc zw : Int} (hS : ab_Sh sx_sk h) (ok_zf : mi_in zf) (ok_zn : mi_in zn) (ok_zc : mi_in zc) (ok_zw : mi_in zw) (k0 : ((-2147483648) ≤ mi_f h 14029 ∧ mi_f h 14029 ≤ 2147483647) → ((0 ≤ (mi_f h 14029) ∧ (mi_f h 14029) < 3000) ∧ (-2147483648 ≤ (mi_f h 14029) + ((1 : Int)) ∧ (mi_f h 14029) + ((1 : Int)) ≤ 2147483647)) ∧ (∀ h1, ab_Sh sx_sk h1 → mi_f h1 14029 = (mi_f h 14029) + ((1 : Int)) → mi_f h1 14031 = (Int32.ofInt (mi_f h 14031) + Int32.ofInt ((1 : Int))).toInt → (∀ i, mi_a h1 165 i = if i = Int.toNat (mi_f h 14029) then (2 : Int) else (mi_a h 165 i)) → (∀ i, mi_a h1 166 i = if i = Int.toNat (mi_f h 14029) then (0 : Int) else (mi_a h 166 i)) → (∀ i, mi_a h1 167 i = if i = Int.toNat (mi_f h 14029) then (0 : Int) else (mi_a h 167 i)) → ab_Fr [(14029, 14030), (14031, 14032), (21120, 21121), (21248, 21249), (21376, 21377)] h h1 → me_E (d + 6) 223 127 [some (.inr (.inr 109)), some (.inl (zf)), some (.inl (zn)), some (.inl (zc)), some (.inl ((0 : Int))), none] [] h1 Q)) : me_E (d + 6) 223 106 [some (.inr (.inr 109)), some (.inl (zf)), some (.inl (zn)), some (.inl (zc)), none, none] [.inl (zw)] h Q := ms_chE_0 hS ok_zf ok_zn ok_zc ok_zw ⟨(k0 (me_fb hS rfl)).1.1, (k0 (me_fb hS rfl)).1.1, (k0 (me_fb hS rfl)).1.2, (k0 (me_fb hS rfl)).1.1⟩ (fun h1 W => (k0 (me_fb hS rfl)).2 h1 W.1 (W.2.1 14029) (W.2.1 14031) (fun i => W.2.2.1 165 i) (fun i => W.2.2.1 166 i) (fun i => W.2.2.1 167 i) (W.2.2.2.2.2 _ rfl))
set_option maxRecDepth 20000 in
theorem mp_chF_0 (h : sm_H) (d : Nat) (zf zn zc zk : Int) : mi_path [(223, (6, 0, sb_223))] sx_sk h 3 [1] (d + 6, 223, 127, [some (.inr (.inr 109)), some (.inl (zf)), some (.inl (zn)), some (.inl (zc)), some (.inl (zk)), none], [], [], []) = some ((d + 6, 223, 146, [some (.inr (.inr 109)), some (.inl (zf)), some (.inl (zn)), some (.inl (zc)), some (.inl (zk)), none], [], [], []), [zn ≤ zk]) := rfl
theorem mi_tab_chF_0 : ∀ e ∈ ([(223, (6, 0, sb_223))] : mi_T), sc_P e.1 = some e.2 := mi_tb mi_P223 (mi_tb_e)
set_option maxRecDepth 20000 in
theorem ms_chF_0 {h : sm_H} {d : Nat} {Q : Option mi_V → sm_H → Prop} {zf zn zc zk : Int} (hS : ab_Sh sx_sk h) (ok_zf : mi_in zf) (ok_zn : mi_in zn) (ok_zc : mi_in zc) (ok_zk : mi_in zk) (ho : (zn ≤ zk)) (kon : ∀ h1, me_W [] h h1 → me_E (d + 6) 223 146 [some (.inr (.inr 109)), some (.inl (zf)), some (.inl (zn)), some (.inl (zc)), some (.inl (zk)), none] [] h1 Q) : me_E (d + 6) 223 127 [some (.inr (.inr 109)), some (.inl (zf)), some (.inl (zn)), some (.inl (zc)), some (.inl (zk)), none] [] h Q := me_seg (mp_chF_0 h d zf zn zc zk) (mi_tab_chF_0) hS (mi_okL_c (trivial) (mi_okL_c (ok_zf) (mi_okL_c (ok_zn) (mi_okL_c (ok_zc) (mi_okL_c (ok_zk) (mi_okL_n (mi_okL_e))))))) (mi_okS_e) (mi_al (ho) (mi_al_e)) (fun h1 W _ hst => kon h1 W)
set_option maxRecDepth 20000 in
theorem mp_chF_1 (h : sm_H) (d : Nat) (zf zn zc zk : Int) : mi_path [(223, (6, 0, sb_223))] sx_sk h 10 [0] (d + 6, 223, 127, [some (.inr (.inr 109)), some (.inl (zf)), some (.inl (zn)), some (.inl (zc)), some (.inl (zk)), none], [], [], []) = some ((d + 6, 223, 127, [some (.inr (.inr 109)), some (.inl (zf)), some (.inl (zn)), some (.inl (mi_a h 128 (Int.toNat zc))), some (.inl (zk + 1)), none], [], [], []), [zk < zn, 0 ≤ zc ∧ zc < 80, -2147483648 ≤ zk + 1 ∧ zk + 1 ≤ 2147483647]) := rfl
theorem mi_tab_chF_1 : ∀ e ∈ ([(223, (6, 0, sb_223))] : mi_T), sc_P e.1 = some e.2 := mi_tb mi_P223 (mi_tb_e)
set_option maxRecDepth 20000 in
theorem ms_chF_1 {h : sm_H} {d : Nat} {Q : Option mi_V → sm_H → Prop} {zf zn zc zk : Int} (hS : ab_Sh sx_sk h) (ok_zf : mi_in zf) (ok_zn : mi_in zn) (ok_zc : mi_in zc) (ok_zk : mi_in zk) (ho : (zk < zn) ∧ (0 ≤ zc ∧ zc < 80) ∧ (-2147483648 ≤ zk + 1 ∧ zk + 1 ≤ 2147483647)) (kon : ∀ h1, me_W [] h h1 → me_E (d + 6) 223 127 [some (.inr (.inr 109)), some (.inl (zf)), some (.inl (zn)), some (.inl (mi_a h 128 (Int.toNat zc))), some (.inl (zk + 1)), none] [] h1 Q) : me_E (d + 6) 223 127 [some (.inr (.inr 109)), some (.inl (zf)), some (.inl (zn)), some (.inl (zc)), some (.inl (zk)), none] [] h Q := me_seg (mp_chF_1 h d zf zn zc zk) (mi_tab_chF_1) hS (mi_okL_c (trivial) (mi_okL_c (ok_zf) (mi_okL_c (ok_zn) (mi_okL_c (ok_zc) (mi_okL_c (ok_zk) (mi_okL_n (mi_okL_e))))))) (mi_okS_e) (mi_al (ho.1) (mi_al (ho.2.1) (mi_al (ho.2.2) (mi_al_e)))) (fun h1 W _ hst => kon h1 W)
set_option maxRecDepth 20000 in
theorem mt_chF {h : sm_H} {d : Nat} {Q : Option mi_V → sm_H → Prop} {zf zn zc zk : Int} (hS : ab_Sh sx_sk h) (ok_zf : mi_in zf) (ok_zn : mi_in zn) (ok_zc : mi_in zc) (ok_zk : mi_in zk) (k0 : (zn ≤ zk) → (∀ h1, ab_Sh sx_sk h1 → ab_Fr [] h h1 → me_E (d + 6) 223 146 [some (.inr (.inr 109)), some (.inl (zf)), some (.inl (zn)), some (.inl (zc)), some (.inl (zk)), none] [] h1 Q)) (k1 : (zk < zn) → ((0 ≤ zc ∧ zc < 80) ∧ (-2147483648 ≤ zk + 1 ∧ zk + 1 ≤ 2147483647)) ∧ (∀ h1, ab_Sh sx_sk h1 → ab_Fr [] h h1 → me_E (d + 6) 223 127 [some (.inr (.inr 109)), some (.inl (zf)), some (.inl (zn)), some (.inl (mi_a h 128 (Int.toNat zc))), some (.inl (zk + 1)), none] [] h1 Q)) : me_E (d + 6) 223 127 [some (.inr (.inr 109)), some (.inl (zf)), some (.inl (zn)), some (.inl (zc)), some (.inl (zk)), none] [] h Q := Or.elim (mi_em .ge (zk) (zn)) (fun c0 => ms_chF_0 hS ok_zf ok_zn ok_zc ok_zk (c0) (fun h1 W => (k0 c0) h1 W.1 (W.2.2.2.2.2 _ rfl))) (fun c0 => ms_chF_1 hS ok_zf ok_zn ok_zc ok_zk ⟨c0, (k1 c0).1.1, (k1 c0).1.2⟩ (fun h1 W => (k1 c0).2 h1 W.1 (W.2.2.2.2.2 _ rfl)))
set_option maxRecDepth 20000 in
theorem mp_chG_0 (h : sm_H) (d : Nat) (zf zn zc : Int) (zj : Option mi_V) : mi_path [(223, (6, 0, sb_223))] sx_sk h 2 [] (d + 6, 223, 146, [some (.inr (.inr 109)), some (.inl (zf)), some (.inl (zn)), some (.inl (zc)), zj, none], [], [], []) = some ((d + 6, 223, 148, [some (.inr (.inr 109)), some (.inl (zf)), some (.inl (zn)), some (.inl (zc)), zj, none], [.inl (zc), .inr (.inr 109)], [], []), []) := rfl
theorem mi_tab_chG_0 : ∀ e ∈ ([(223, (6, 0, sb_223))] : mi_T), sc_P e.1 = some e.2 := mi_tb mi_P223 (mi_tb_e)
set_option maxRecDepth 20000 in
theorem ms_chG_0 {h : sm_H} {d : Nat} {Q : Option mi_V → sm_H → Prop} {zf zn zc : Int} {zj : Option mi_V} (hS : ab_Sh sx_sk h) (ok_zf : mi_in zf) (ok_zn : mi_in zn) (ok_zc : mi_in zc) (ok_zj : ∀ v, zj = some v → mi_ok v) (kon : ∀ h1, me_W [] h h1 → ∃ Q1, me_E (d + 5) 197 0 (mi_entry 4 [.inr (.inr 109), .inl (zc)]) [] h1 Q1 ∧ ∀ w h2, (∀ x, w = some x → mi_ok x) → Q1 w h2 → me_E (d + 6) 223 151 [some (.inr (.inr 109)), some (.inl (zf)), some (.inl (zn)), some (.inl (zc)), zj, none] (mi_back w []) h2 Q) : me_E (d + 6) 223 146 [some (.inr (.inr 109)), some (.inl (zf)), some (.inl (zn)), some (.inl (zc)), zj, none] [] h Q := me_seg (mp_chG_0 h d zf zn zc zj) (mi_tab_chG_0) hS (mi_okL_c (trivial) (mi_okL_c (ok_zf) (mi_okL_c (ok_zn) (mi_okL_c (ok_zc) (mi_okL_o ok_zj (mi_okL_n (mi_okL_e))))))) (mi_okS_e) (mi_al_e) (fun h1 W _ hst => let ⟨_, k1, k2⟩ := kon h1 W; me_call (M := (6, 0, sb_223)) (M' := (4, 1, sb_197)) rfl rfl rfl rfl (Nat.le_of_ble_eq_true rfl) (Nat.le_of_ble_eq_true rfl) W.1 k1 k2)
set_option maxRecDepth 20000 in
theorem mt_chG {h : sm_H} {d : Nat} {Q : Option mi_V → sm_H → Prop} {zf zn zc : Int} {zj : Option mi_V} (hS : ab_Sh sx_sk h) (ok_zf : mi_in zf) (ok_zn : mi_in zn) (ok_zc : mi_in zc) (ok_zj : ∀ v, zj = some v → mi_ok v) (k0 : (∀ h1, ab_Sh sx_sk h1 → ab_Fr [] h h1 → ∃ Q1, me_E (d + 5) 197 0 (mi_entry 4 [.inr (.inr 109), .inl (zc)]) [] h1 Q1 ∧ ∀ w h2, (∀ x, w = some x → mi_ok x) → Q1 w h2 → me_E (d + 6) 223 151 [some (.inr (.inr 109)), some (.inl (zf)), some (.inl (zn)), some (.inl (zc)), zj, none] (mi_back w []) h2 Q)) : me_E (d + 6) 223 146 [some (.inr (.inr 109)), some (.inl (zf)), some (.inl (zn)), some (.inl (zc)), zj, none] [] h Q := ms_chG_0 hS ok_zf ok_zn ok_zc ok_zj (fun h1 W => (k0) h1 W.1 (W.2.2.2.2.2 _ rfl))
set_option maxRecDepth 20000 in
theorem mp_chH_0 (h : sm_H) (d : Nat) (zf zn zc zz : Int) (zj : Option mi_V) : mi_path [(223, (6, 0, sb_223))] sx_sk h 3 [8] (d + 6, 223, 151, [some (.inr (.inr 109)), some (.inl (zf)), some (.inl (zn)), some (.inl (zc)), zj, none], [.inl (zz)], [], []) = some ((d + 6, 223, 155, [some (.inr (.inr 109)), some (.inl (zf)), some (.inl (zn)), some (.inl (zc)), some (.inl (zz - ((1 : Int)))), none], [], [], []), [-2147483648 ≤ zz - ((1 : Int)) ∧ zz - ((1 : Int)) ≤ 2147483647]) := rfl
theorem mi_tab_chH_0 : ∀ e ∈ ([(223, (6, 0, sb_223))] : mi_T), sc_P e.1 = some e.2 := mi_tb mi_P223 (mi_tb_e)
set_option maxRecDepth 20000 in
theorem ms_chH_0 {h : sm_H} {d : Nat} {Q : Option mi_V → sm_H → Prop} {zf zn zc zz : Int} {zj : Option mi_V} (hS : ab_Sh sx_sk h) (ok_zf : mi_in zf) (ok_zn : mi_in zn) (ok_zc : mi_in zc) (ok_zz : mi_in zz) (ok_zj : ∀ v, zj = some v → mi_ok v) (ho : (-2147483648 ≤ zz - ((1 : Int)) ∧ zz - ((1 : Int)) ≤ 2147483647)) (kon : ∀ h1, me_W [] h h1 → me_E (d + 6) 223 155 [some (.inr (.inr 109)), some (.inl (zf)), some (.inl (zn)), some (.inl (zc)), some (.inl (zz - ((1 : Int)))), none] [] h1 Q) : me_E (d + 6) 223 151 [some (.inr (.inr 109)), some (.inl (zf)), some (.inl (zn)), some (.inl (zc)), zj, none] [.inl (zz)] h Q := me_seg (mp_chH_0 h d zf zn zc zz zj) (mi_tab_chH_0) hS (mi_okL_c (trivial) (mi_okL_c (ok_zf) (mi_okL_c (ok_zn) (mi_okL_c (ok_zc) (mi_okL_o ok_zj (mi_okL_n (mi_okL_e))))))) (mi_okS_cons (ok_zz) (mi_okS_e)) (mi_al (ho) (mi_al_e)) (fun h1 W _ hst => kon h1 W)
set_option maxRecDepth 20000 in
theorem mt_chH {h : sm_H} {d : Nat} {Q : Option mi_V → sm_H → Prop} {zf zn zc zz : Int} {zj : Option mi_V} (hS : ab_Sh sx_sk h) (ok_zf : mi_in zf) (ok_zn : mi_in zn) (ok_zc : mi_in zc) (ok_zz : mi_in zz) (ok_zj : ∀ v, zj = some v → mi_ok v) (k0 : ((-2147483648 ≤ zz - ((1 : Int)) ∧ zz - ((1 : Int)) ≤ 2147483647)) ∧ (∀ h1, ab_Sh sx_sk h1 → ab_Fr [] h h1 → me_E (d + 6) 223 155 [some (.inr (.inr 109)), some (.inl (zf)), some (.inl (zn)), some (.inl (zc)), some (.inl (zz - ((1 : Int)))), none] [] h1 Q)) : me_E (d + 6) 223 151 [some (.inr (.inr 109)), some (.inl (zf)), some (.inl (zn)), some (.inl (zc)), zj, none] [.inl (zz)] h Q := ms_chH_0 hS ok_zf ok_zn ok_zc ok_zz ok_zj ((k0).1) (fun h1 W => (k0).2 h1 W.1 (W.2.2.2.2.2 _ rfl))
set_option maxRecDepth 20000 in
theorem mp_chI_0 (h : sm_H) (d : Nat) (zf zn zc zk : Int) (zs : Option mi_V) : mi_path [(223, (6, 0, sb_223))] sx_sk h 2 [1] (d + 6, 223, 155, [some (.inr (.inr 109)), some (.inl (zf)), some (.inl (zn)), some (.inl (zc)), some (.inl (zk)), zs], [], [], []) = some ((d + 6, 223, 258, [some (.inr (.inr 109)), some (.inl (zf)), some (.inl (zn)), some (.inl (zc)), some (.inl (zk)), zs], [], [], []), [zk < ((0 : Int))]) := rfl
theorem mi_tab_chI_0 : ∀ e ∈ ([(223, (6, 0, sb_223))] : mi_T), sc_P e.1 = some e.2 := mi_tb mi_P223 (mi_tb_e)
set_option maxRecDepth 20000 in
theorem ms_chI_0 {h : sm_H} {d : Nat} {Q : Option mi_V → sm_H → Prop} {zf zn zc zk : Int} {zs : Option mi_V} (hS : ab_Sh sx_sk h) (ok_zf : mi_in zf) (ok_zn : mi_in zn) (ok_zc : mi_in zc) (ok_zk : mi_in zk) (ok_zs : ∀ v, zs = some v → mi_ok v) (ho : (zk < ((0 : Int)))) (kon : ∀ h1, me_W [] h h1 → Q none h1) : me_E (d + 6) 223 155 [some (.inr (.inr 109)), some (.inl (zf)), some (.inl (zn)), some (.inl (zc)), some (.inl (zk)), zs] [] h Q := me_seg (mp_chI_0 h d zf zn zc zk zs) (mi_tab_chI_0) hS (mi_okL_c (trivial) (mi_okL_c (ok_zf) (mi_okL_c (ok_zn) (mi_okL_c (ok_zc) (mi_okL_c (ok_zk) (mi_okL_o ok_zs (mi_okL_e))))))) (mi_okS_e) (mi_al (ho) (mi_al_e)) (fun h1 W _ hst => me_ret (M := (6, 0, sb_223)) rfl rfl rfl hst (mi_al_e) (kon h1 W))
set_option maxRecDepth 20000 in
theorem mp_chI_1 (h : sm_H) (d : Nat) (zf zn zc zk : Int) (zs : Option mi_V) : mi_path [(223, (6, 0, sb_223))] sx_sk h 23 [0, 1, 1, 1] (d + 6, 223, 155, [some (.inr (.inr 109)), some (.inl (zf)), some (.inl (zn)), some (.inl (zc)), some (.inl (zk)), zs], [], [], []) = some ((d + 6, 223, 237, [some (.inr (.inr 109)), some (.inl (zf)), some (.inl (zn)), some (.inl (zc)), some (.inl (zk)), some (.inl ((0 : Int)))], [.inl ((0 : Int)), .inl (mi_a h 145 (Int.toNat zk)), .inl ((0 : Int)), .inr (.inr 109)], [], []), [((0 : Int)) ≤ zk, zk ≤ ((0 : Int)), ((0 : Int)) = ((0 : Int)), 0 ≤ zk ∧ zk < 100, 0 ≤ zk ∧ zk < 100, 0 ≤ (mi_a h 145 (Int.toNat zk)) ∧ (mi_a h 145 (Int.toNat zk)) < 60, (mi_a h 124 (Int.toNat (mi_a h 145 (Int.toNat zk)))) < ((0 : Int))]) := rfl
theorem mi_tab_chI_1 : ∀ e ∈ ([(223, (6, 0, sb_223))] : mi_T), sc_P e.1 = some e.2 := mi_tb mi_P223 (mi_tb_e)
set_option maxRecDepth 20000 in
theorem ms_chI_1 {h : sm_H} {d : Nat} {Q : Option mi_V → sm_H → Prop} {zf zn zc zk : Int} {zs : Option mi_V} (hS : ab_Sh sx_sk h) (ok_zf : mi_in zf) (ok_zn : mi_in zn) (ok_zc : mi_in zc) (ok_zk : mi_in zk) (ok_zs : ∀ v, zs = some v → mi_ok v) (ho : (((0 : Int)) ≤ zk) ∧ (zk ≤ ((0 : Int))) ∧ (((0 : Int)) = ((0 : Int))) ∧ (0 ≤ zk ∧ zk < 100) ∧ (0 ≤ zk ∧ zk < 100) ∧ (0 ≤ (mi_a h 145 (Int.toNat zk)) ∧ (mi_a h 145 (Int.toNat zk)) < 60) ∧ ((mi_a h 124 (Int.toNat (mi_a h 145 (Int.toNat zk)))) < ((0 : Int)))) (kon : ∀ h1, me_W [] h h1 → ∃ Q1, me_E (d + 5) 209 0 (mi_entry 4 [.inr (.inr 109), .inl ((0 : Int)), .inl (mi_a h 145 (Int.toNat zk)), .inl ((0 : Int))]) [] h1 Q1 ∧ ∀ w h2, (∀ x, w = some x → mi_ok x) → Q1 w h2 → me_E (d + 6) 223 240 [some (.inr (.inr 109)), some (.inl (zf)), some (.inl (zn)), some (.inl (zc)), some (.inl (zk)), some (.inl ((0 : Int)))] (mi_back w []) h2 Q) : me_E (d + 6) 223 155 [some (.inr (.inr 109)), some (.inl (zf)), some (.inl (zn)), some (.inl (zc)), some (.inl (zk)), zs] [] h Q := me_seg (mp_chI_1 h d zf zn zc zk zs) (mi_tab_chI_1) hS (mi_okL_c (trivial) (mi_okL_c (ok_zf) (mi_okL_c (ok_zn) (mi_okL_c (ok_zc) (mi_okL_c (ok_zk) (mi_okL_o ok_zs (mi_okL_e))))))) (mi_okS_e) (mi_al (ho.1) (mi_al (ho.2.1) (mi_al (ho.2.2.1) (mi_al (ho.2.2.2.1) (mi_al (ho.2.2.2.2.1) (mi_al (ho.2.2.2.2.2.1) (mi_al (ho.2.2.2.2.2.2) (mi_al_e)))))))) (fun h1 W _ hst => let ⟨_, k1, k2⟩ := kon h1 W; me_call (M := (6, 0, sb_223)) (M' := (4, 0, sb_209)) rfl rfl rfl rfl (Nat.le_of_ble_eq_true rfl) (Nat.le_of_ble_eq_true rfl) W.1 k1 k2)
set_option maxRecDepth 20000 in
theorem mp_chI_2 (h : sm_H) (d : Nat) (zf zn zc zk : Int) (zs : Option mi_V) : mi_path [(223, (6, 0, sb_223))] sx_sk h 24 [0, 1, 1, 0] (d + 6, 223, 155, [some (.inr (.inr 109)), some (.inl (zf)), some (.inl (zn)), some (.inl (zc)), some (.inl (zk)), zs], [], [], []) = some ((d + 6, 223, 237, [some (.inr (.inr 109)), some (.inl (zf)), some (.inl (zn)), some (.inl (zc)), some (.inl (zk)), some (.inl ((0 : Int)))], [.inl ((1 : Int)), .inl (mi_a h 145 (Int.toNat zk)), .inl ((0 : Int)), .inr (.inr 109)], [], []), [((0 : Int)) ≤ zk, zk ≤ ((0 : Int)), ((0 : Int)) = ((0 : Int)), 0 ≤ zk ∧ zk < 100, 0 ≤ zk ∧ zk < 100, 0 ≤ (mi_a h 145 (Int.toNat zk)) ∧ (mi_a h 145 (Int.toNat zk)) < 60, ((0 : Int)) ≤ (mi_a h 124 (Int.toNat (mi_a h 145 (Int.toNat zk))))]) := rfl
theorem mi_tab_chI_2 : ∀ e ∈ ([(223, (6, 0, sb_223))] : mi_T), sc_P e.1 = some e.2 := mi_tb mi_P223 (mi_tb_e)
set_option maxRecDepth 20000 in
theorem ms_chI_2 {h : sm_H} {d : Nat} {Q : Option mi_V → sm_H → Prop} {zf zn zc zk : Int} {zs : Option mi_V} (hS : ab_Sh sx_sk h) (ok_zf : mi_in zf) (ok_zn : mi_in zn) (ok_zc : mi_in zc) (ok_zk : mi_in zk) (ok_zs : ∀ v, zs = some v → mi_ok v) (ho : (((0 : Int)) ≤ zk) ∧ (zk ≤ ((0 : Int))) ∧ (((0 : Int)) = ((0 : Int))) ∧ (0 ≤ zk ∧ zk < 100) ∧ (0 ≤ zk ∧ zk < 100) ∧ (0 ≤ (mi_a h 145 (Int.toNat zk)) ∧ (mi_a h 145 (Int.toNat zk)) < 60) ∧ (((0 : Int)) ≤ (mi_a h 124 (Int.toNat (mi_a h 145 (Int.toNat zk)))))) (kon : ∀ h1, me_W [] h h1 → ∃ Q1, me_E (d + 5) 209 0 (mi_entry 4 [.inr (.inr 109), .inl ((0 : Int)), .inl (mi_a h 145 (Int.toNat zk)), .inl ((1 : Int))]) [] h1 Q1 ∧ ∀ w h2, (∀ x, w = some x → mi_ok x) → Q1 w h2 → me_E (d + 6) 223 240 [some (.inr (.inr 109)), some (.inl (zf)), some (.inl (zn)), some (.inl (zc)), some (.inl (zk)), some (.inl ((0 : Int)))] (mi_back w []) h2 Q) : me_E (d + 6) 223 155 [some (.inr (.inr 109)), some (.inl (zf)), some (.inl (zn)), some (.inl (zc)), some (.inl (zk)), zs] [] h Q := me_seg (mp_chI_2 h d zf zn zc zk zs) (mi_tab_chI_2) hS (mi_okL_c (trivial) (mi_okL_c (ok_zf) (mi_okL_c (ok_zn) (mi_okL_c (ok_zc) (mi_okL_c (ok_zk) (mi_okL_o ok_zs (mi_okL_e))))))) (mi_okS_e) (mi_al (ho.1) (mi_al (ho.2.1) (mi_al (ho.2.2.1) (mi_al (ho.2.2.2.1) (mi_al (ho.2.2.2.2.1) (mi_al (ho.2.2.2.2.2.1) (mi_al (ho.2.2.2.2.2.2) (mi_al_e)))))))) (fun h1 W _ hst => let ⟨_, k1, k2⟩ := kon h1 W; me_call (M := (6, 0, sb_223)) (M' := (4, 0, sb_209)) rfl rfl rfl rfl (Nat.le_of_ble_eq_true rfl) (Nat.le_of_ble_eq_true rfl) W.1 k1 k2)
set_option maxRecDepth 20000 in
theorem mp_chI_3 (h : sm_H) (d : Nat) (zf zn zc zk : Int) (zs : Option mi_V) : mi_path [(223, (6, 0, sb_223))] sx_sk h 37 [0, 0, 8, 1, 1, 1] (d + 6, 223, 155, [some (.inr (.inr 109)), some (.inl (zf)), some (.inl (zn)), some (.inl (zc)), some (.inl (zk)), zs], [], [], []) = some ((d + 6, 223, 237, [some (.inr (.inr 109)), some (.inl (zf)), some (.inl (zn)), some (.inl (zc)), some (.inl (zk)), some (.inl ((0 : Int)))], [.inl ((0 : Int)), .inl (mi_a h 145 (Int.toNat zk)), .inl ((0 : Int)), .inr (.inr 109)], [], []), [((0 : Int)) ≤ zk, ((0 : Int)) < zk, -2147483648 ≤ zk - ((1 : Int)) ∧ zk - ((1 : Int)) ≤ 2147483647, 0 ≤ (zk - ((1 : Int))) ∧ (zk - ((1 : Int))) < 100, 0 ≤ (mi_a h 145 (Int.toNat (zk - ((1 : Int))))) ∧ (mi_a h 145 (Int.toNat (zk - ((1 : Int))))) < 60, 0 ≤ zk ∧ zk < 100, (mi_a h 124 (Int.toNat (mi_a h 145 (Int.toNat (zk - ((1 : Int))))))) ≠ (mi_a h 145 (Int.toNat zk)), ((0 : Int)) = ((0 : Int)), 0 ≤ zk ∧ zk < 100, 0 ≤ zk ∧ zk < 100, 0 ≤ (mi_a h 145 (Int.toNat zk)) ∧ (mi_a h 145 (Int.toNat zk)) < 60, (mi_a h 124 (Int.toNat (mi_a h 145 (Int.toNat zk)))) < ((0 : Int))]) := rfl
theorem mi_tab_chI_3 : ∀ e ∈ ([(223, (6, 0, sb_223))] : mi_T), sc_P e.1 = some e.2 := mi_tb mi_P223 (mi_tb_e)
set_option maxRecDepth 20000 in
theorem ms_chI_3 {h : sm_H} {d : Nat} {Q : Option mi_V → sm_H → Prop} {zf zn zc zk : Int} {zs : Option mi_V} (hS : ab_Sh sx_sk h) (ok_zf : mi_in zf) (ok_zn : mi_in zn) (ok_zc : mi_in zc) (ok_zk : mi_in zk) (ok_zs : ∀ v, zs = some v → mi_ok v) (ho : (((0 : Int)) ≤ zk) ∧ (((0 : Int)) < zk) ∧ (-2147483648 ≤ zk - ((1 : Int)) ∧ zk - ((1 : Int)) ≤ 2147483647) ∧ (0 ≤ (zk - ((1 : Int))) ∧ (zk - ((1 : Int))) < 100) ∧ (0 ≤ (mi_a h 145 (Int.toNat (zk - ((1 : Int))))) ∧ (mi_a h 145 (Int.toNat (zk - ((1 : Int))))) < 60) ∧ (0 ≤ zk ∧ zk < 100) ∧ ((mi_a h 124 (Int.toNat (mi_a h 145 (Int.toNat (zk - ((1 : Int))))))) ≠ (mi_a h 145 (Int.toNat zk))) ∧ (((0 : Int)) = ((0 : Int))) ∧ (0 ≤ zk ∧ zk < 100) ∧ (0 ≤ zk ∧ zk < 100) ∧ (0 ≤ (mi_a h 145 (Int.toNat zk)) ∧ (mi_a h 145 (Int.toNat zk)) < 60) ∧ ((mi_a h 124 (Int.toNat (mi_a h 145 (Int.toNat zk)))) < ((0 : Int)))) (kon : ∀ h1, me_W [] h h1 → ∃ Q1, me_E (d + 5) 209 0 (mi_entry 4 [.inr (.inr 109), .inl ((0 : Int)), .inl (mi_a h 145 (Int.toNat zk)), .inl ((0 : Int))]) [] h1 Q1 ∧ ∀ w h2, (∀ x, w = some x → mi_ok x) → Q1 w h2 → me_E (d + 6) 223 240 [some (.inr (.inr 109)), some (.inl (zf)), some (.inl (zn)), some (.inl (zc)), some (.inl (zk)), some (.inl ((0 : Int)))] (mi_back w []) h2 Q) : me_E (d + 6) 223 155 [some (.inr (.inr 109)), some (.inl (zf)), some (.inl (zn)), some (.inl (zc)), some (.inl (zk)), zs] [] h Q := me_seg (mp_chI_3 h d zf zn zc zk zs) (mi_tab_chI_3) hS (mi_okL_c (trivial) (mi_okL_c (ok_zf) (mi_okL_c (ok_zn) (mi_okL_c (ok_zc) (mi_okL_c (ok_zk) (mi_okL_o ok_zs (mi_okL_e))))))) (mi_okS_e) (mi_al (ho.1) (mi_al (ho.2.1) (mi_al (ho.2.2.1) (mi_al (ho.2.2.2.1) (mi_al (ho.2.2.2.2.1) (mi_al (ho.2.2.2.2.2.1) (mi_al (ho.2.2.2.2.2.2.1) (mi_al (ho.2.2.2.2.2.2.2.1) (mi_al (ho.2.2.2.2.2.2.2.2.1) (mi_al (ho.2.2.2.2.2.2.2.2.2.1) (mi_al (ho.2.2.2.2.2.2.2.2.2.2.1) (mi_al (ho.2.2.2.2.2.2.2.2.2.2.2) (mi_al_e))))))))))))) (fun h1 W _ hst => let ⟨_, k1, k2⟩ := kon h1 W; me_call (M := (6, 0, sb_223)) (M' := (4, 0, sb_209)) rfl rfl rfl rfl (Nat.le_of_ble_eq_true rfl) (Nat.le_of_ble_eq_true rfl) W.1 k1 k2)
set_option maxRecDepth 20000 in
theorem mp_chI_4 (h : sm_H) (d : Nat) (zf zn zc zk : Int) (zs : Option mi_V) : mi_path [(223, (6, 0, sb_223))] sx_sk h 38 [0, 0, 8, 1, 1, 0] (d + 6, 223, 155, [some (.inr (.inr 109)), some (.inl (zf)), some (.inl (zn)), some (.inl (zc)), some (.inl (zk)), zs], [], [], []) = some ((d + 6, 223, 237, [some (.inr (.inr 109)), some (.inl (zf)), some (.inl (zn)), some (.inl (zc)), some (.inl (zk)), some (.inl ((0 : Int)))], [.inl ((1 : Int)), .inl (mi_a h 145 (Int.toNat zk)), .inl ((0 : Int)), .inr (.inr 109)], [], []), [((0 : Int)) ≤ zk, ((0 : Int)) < zk, -2147483648 ≤ zk - ((1 : Int)) ∧ zk - ((1 : Int)) ≤ 2147483647, 0 ≤ (zk - ((1 : Int))) ∧ (zk - ((1 : Int))) < 100, 0 ≤ (mi_a h 145 (Int.toNat (zk - ((1 : Int))))) ∧ (mi_a h 145 (Int.toNat (zk - ((1 : Int))))) < 60, 0 ≤ zk ∧ zk < 100, (mi_a h 124 (Int.toNat (mi_a h 145 (Int.toNat (zk - ((1 : Int))))))) ≠ (mi_a h 145 (Int.toNat zk)), ((0 : Int)) = ((0 : Int)), 0 ≤ zk ∧ zk < 100, 0 ≤ zk ∧ zk < 100, 0 ≤ (mi_a h 145 (Int.toNat zk)) ∧ (mi_a h 145 (Int.toNat zk)) < 60, ((0 : Int)) ≤ (mi_a h 124 (Int.toNat (mi_a h 145 (Int.toNat zk))))]) := rfl
theorem mi_tab_chI_4 : ∀ e ∈ ([(223, (6, 0, sb_223))] : mi_T), sc_P e.1 = some e.2 := mi_tb mi_P223 (mi_tb_e)
set_option maxRecDepth 20000 in
theorem ms_chI_4 {h : sm_H} {d : Nat} {Q : Option mi_V → sm_H → Prop} {zf zn zc zk : Int} {zs : Option mi_V} (hS : ab_Sh sx_sk h) (ok_zf : mi_in zf) (ok_zn : mi_in zn) (ok_zc : mi_in zc) (ok_zk : mi_in zk) (ok_zs : ∀ v, zs = some v → mi_ok v) (ho : (((0 : Int)) ≤ zk) ∧ (((0 : Int)) < zk) ∧ (-2147483648 ≤ zk - ((1 : Int)) ∧ zk - ((1 : Int)) ≤ 2147483647) ∧ (0 ≤ (zk - ((1 : Int))) ∧ (zk - ((1 : Int))) < 100) ∧ (0 ≤ (mi_a h 145 (Int.toNat (zk - ((1 : Int))))) ∧ (mi_a h 145 (Int.toNat (zk - ((1 : Int))))) < 60) ∧ (0 ≤ zk ∧ zk < 100) ∧ ((mi_a h 124 (Int.toNat (mi_a h 145 (Int.toNat (zk - ((1 : Int))))))) ≠ (mi_a h 145 (Int.toNat zk))) ∧ (((0 : Int)) = ((0 : Int))) ∧ (0 ≤ zk ∧ zk < 100) ∧ (0 ≤ zk ∧ zk < 100) ∧ (0 ≤ (mi_a h 145 (Int.toNat zk)) ∧ (mi_a h 145 (Int.toNat zk)) < 60) ∧ (((0 : Int)) ≤ (mi_a h 124 (Int.toNat (mi_a h 145 (Int.toNat zk)))))) (kon : ∀ h1, me_W [] h h1 → ∃ Q1, me_E (d + 5) 209 0 (mi_entry 4 [.inr (.inr 109), .inl ((0 : Int)), .inl (mi_a h 145 (Int.toNat zk)), .inl ((1 : Int))]) [] h1 Q1 ∧ ∀ w h2, (∀ x, w = some x → mi_ok x) → Q1 w h2 → me_E (d + 6) 223 240 [some (.inr (.inr 109)), some (.inl (zf)), some (.inl (zn)), some (.inl (zc)), some (.inl (zk)), some (.inl ((0 : Int)))] (mi_back w []) h2 Q) : me_E (d + 6) 223 155 [some (.inr (.inr 109)), some (.inl (zf)), some (.inl (zn)), some (.inl (zc)), some (.inl (zk)), zs] [] h Q := me_seg (mp_chI_4 h d zf zn zc zk zs) (mi_tab_chI_4) hS (mi_okL_c (trivial) (mi_okL_c (ok_zf) (mi_okL_c (ok_zn) (mi_okL_c (ok_zc) (mi_okL_c (ok_zk) (mi_okL_o ok_zs (mi_okL_e))))))) (mi_okS_e) (mi_al (ho.1) (mi_al (ho.2.1) (mi_al (ho.2.2.1) (mi_al (ho.2.2.2.1) (mi_al (ho.2.2.2.2.1) (mi_al (ho.2.2.2.2.2.1) (mi_al (ho.2.2.2.2.2.2.1) (mi_al (ho.2.2.2.2.2.2.2.1) (mi_al (ho.2.2.2.2.2.2.2.2.1) (mi_al (ho.2.2.2.2.2.2.2.2.2.1) (mi_al (ho.2.2.2.2.2.2.2.2.2.2.1) (mi_al (ho.2.2.2.2.2.2.2.2.2.2.2) (mi_al_e))))))))))))) (fun h1 W _ hst => let ⟨_, k1, k2⟩ := kon h1 W; me_call (M := (6, 0, sb_223)) (M' := (4, 0, sb_209)) rfl rfl rfl rfl (Nat.le_of_ble_eq_true rfl) (Nat.le_of_ble_eq_true rfl) W.1 k1 k2)
set_option maxRecDepth 20000 in
theorem mp_chI_5 (h : sm_H) (d : Nat) (zf zn zc zk : Int) (zs : Option mi_V) : mi_path [(223, (6, 0, sb_223))] sx_sk h 27 [0, 0, 8, 0, 0] (d + 6, 223, 155, [some (.inr (.inr 109)), some (.inl (zf)), some (.inl (zn)), some (.inl (zc)), some (.inl (zk)), zs], [], [], []) = some ((d + 6, 223, 205, [some (.inr (.inr 109)), some (.inl (zf)), some (.inl (zn)), some (.inl (zc)), some (.inl (zk)), some (.inl ((1 : Int)))], [.inl ((0 : Int)), .inl ((0 : Int)), .inl ((4 : Int)), .inr (.inr 109)], [], []), [((0 : Int)) ≤ zk, ((0 : Int)) < zk, -2147483648 ≤ zk - ((1 : Int)) ∧ zk - ((1 : Int)) ≤ 2147483647, 0 ≤ (zk - ((1 : Int))) ∧ (zk - ((1 : Int))) < 100, 0 ≤ (mi_a h 145 (Int.toNat (zk - ((1 : Int))))) ∧ (mi_a h 145 (Int.toNat (zk - ((1 : Int))))) < 60, 0 ≤ zk ∧ zk < 100, (mi_a h 124 (Int.toNat (mi_a h 145 (Int.toNat (zk - ((1 : Int))))))) = (mi_a h 145 (Int.toNat zk)), ((1 : Int)) ≠ ((0 : Int))]) := rfl
theorem mi_tab_chI_5 : ∀ e ∈ ([(223, (6, 0, sb_223))] : mi_T), sc_P e.1 = some e.2 := mi_tb mi_P223 (mi_tb_e)
set_option maxRecDepth 20000 in
theorem ms_chI_5 {h : sm_H} {d : Nat} {Q : Option mi_V → sm_H → Prop} {zf zn zc zk : Int} {zs : Option mi_V} (hS : ab_Sh sx_sk h) (ok_zf : mi_in zf) (ok_zn : mi_in zn) (ok_zc : mi_in zc) (ok_zk : mi_in zk) (ok_zs : ∀ v, zs = some v → mi_ok v) (ho : (((0 : Int)) ≤ zk) ∧ (((0 : Int)) < zk) ∧ (-2147483648 ≤ zk - ((1 : Int)) ∧ zk - ((1 : Int)) ≤ 2147483647) ∧ (0 ≤ (zk - ((1 : Int))) ∧ (zk - ((1 : Int))) < 100) ∧ (0 ≤ (mi_a h 145 (Int.toNat (zk - ((1 : Int))))) ∧ (mi_a h 145 (Int.toNat (zk - ((1 : Int))))) < 60) ∧ (0 ≤ zk ∧ zk < 100) ∧ ((mi_a h 124 (Int.toNat (mi_a h 145 (Int.toNat (zk - ((1 : Int))))))) = (mi_a h 145 (Int.toNat zk))) ∧ (((1 : Int)) ≠ ((0 : Int)))) (kon : ∀ h1, me_W [] h h1 → ∃ Q1, me_E (d + 5) 209 0 (mi_entry 4 [.inr (.inr 109), .inl ((4 : Int)), .inl ((0 : Int)), .inl ((0 : Int))]) [] h1 Q1 ∧ ∀ w h2, (∀ x, w = some x → mi_ok x) → Q1 w h2 → me_E (d + 6) 223 208 [some (.inr (.inr 109)), some (.inl (zf)), some (.inl (zn)), some (.inl (zc)), some (.inl (zk)), some (.inl ((1 : Int)))] (mi_back w []) h2 Q) : me_E (d + 6) 223 155 [some (.inr (.inr 109)), some (.inl (zf)), some (.inl (zn)), some (.inl (zc)), some (.inl (zk)), zs] [] h Q := me_seg (mp_chI_5 h d zf zn zc zk zs) (mi_tab_chI_5) hS (mi_okL_c (trivial) (mi_okL_c (ok_zf) (mi_okL_c (ok_zn) (mi_okL_c (ok_zc) (mi_okL_c (ok_zk) (mi_okL_o ok_zs (mi_okL_e))))))) (mi_okS_e) (mi_al (ho.1) (mi_al (ho.2.1) (mi_al (ho.2.2.1) (mi_al (ho.2.2.2.1) (mi_al (ho.2.2.2.2.1) (mi_al (ho.2.2.2.2.2.1) (mi_al (ho.2.2.2.2.2.2.1) (mi_al (ho.2.2.2.2.2.2.2) (mi_al_e))))))))) (fun h1 W _ hst => let ⟨_, k1, k2⟩ := kon h1 W; me_call (M := (6, 0, sb_223)) (M' := (4, 0, sb_209)) rfl rfl rfl rfl (Nat.le_of_ble_eq_true rfl) (Nat.le_of_ble_eq_true rfl) W.1 k1 k2)
set_option maxRecDepth 20000 in
theorem mt_chI {h : sm_H} {d : Nat} {Q : Option mi_V → sm_H → Prop} {zf zn zc zk : Int} {zs : Option mi_V} (hS : ab_Sh sx_sk h) (ok_zf : mi_in zf) (ok_zn : mi_in zn) (ok_zc : mi_in zc) (ok_zk : mi_in zk) (ok_zs : ∀ v, zs = some v → mi_ok v) (k0 : (zk < ((0 : Int))) → (∀ h1, ab_Sh sx_sk h1 → ab_Fr [] h h1 → Q none h1)) (k1 : (((0 : Int)) ≤ zk) → (zk ≤ ((0 : Int))) → ((mi_a h 124 (Int.toNat (mi_a h 145 (Int.toNat zk)))) < ((0 : Int))) → ((0 ≤ zk ∧ zk < 100) ∧ (0 ≤ (mi_a h 145 (Int.toNat zk)) ∧ (mi_a h 145 (Int.toNat zk)) < 60)) ∧ (∀ h1, ab_Sh sx_sk h1 → ab_Fr [] h h1 → ∃ Q1, me_E (d + 5) 209 0 (mi_entry 4 [.inr (.inr 109), .inl ((0 : Int)), .inl (mi_a h 145 (Int.toNat zk)), .inl ((0 : Int))]) [] h1 Q1 ∧ ∀ w h2, (∀ x, w = some x → mi_ok x) → Q1 w h2 → me_E (d + 6) 223 240 [some (.inr (.inr 109)), some (.inl (zf)), some (.inl (zn)), some (.inl (zc)), some (.inl (zk)), some (.inl ((0 : Int)))] (mi_back w []) h2 Q)) (k2 : (((0 : Int)) ≤ zk) → (zk ≤ ((0 : Int))) → (((0 : Int)) ≤ (mi_a h 124 (Int.toNat (mi_a h 145 (Int.toNat zk))))) → ((0 ≤ zk ∧ zk < 100) ∧ (0 ≤ (mi_a h 145 (Int.toNat zk)) ∧ (mi_a h 145 (Int.toNat zk)) < 60)) ∧ (∀ h1, ab_Sh sx_sk h1 → ab_Fr [] h h1 → ∃ Q1, me_E (d + 5) 209 0 (mi_entry 4 [.inr (.inr 109), .inl ((0 : Int)), .inl (mi_a h 145 (Int.toNat zk)), .inl ((1 : Int))]) [] h1 Q1 ∧ ∀ w h2, (∀ x, w = some x → mi_ok x) → Q1 w h2 → me_E (d + 6) 223 240 [some (.inr (.inr 109)), some (.inl (zf)), some (.inl (zn)), some (.inl (zc)), some (.inl (zk)), some (.inl ((0 : Int)))] (mi_back w []) h2 Q)) (k3 : (((0 : Int)) ≤ zk) → (((0 : Int)) < zk) → ((mi_a h 124 (Int.toNat (mi_a h 145 (Int.toNat (zk - ((1 : Int))))))) ≠ (mi_a h 145 (Int.toNat zk))) → ((mi_a h 124 (Int.toNat (mi_a h 145 (Int.toNat zk)))) < ((0 : Int))) → ((-2147483648 ≤ zk - ((1 : Int)) ∧ zk - ((1 : Int)) ≤ 2147483647) ∧ (0 ≤ (zk - ((1 : Int))) ∧ (zk - ((1 : Int))) < 100) ∧ (0 ≤ (mi_a h 145 (Int.toNat (zk - ((1 : Int))))) ∧ (mi_a h 145 (Int.toNat (zk - ((1 : Int))))) < 60) ∧ (0 ≤ zk ∧ zk < 100) ∧ (0 ≤ (mi_a h 145 (Int.toNat zk)) ∧ (mi_a h 145 (Int.toNat zk)) < 60)) ∧ (∀ h1, ab_Sh sx_sk h1 → ab_Fr [] h h1 → ∃ Q1, me_E (d + 5) 209 0 (mi_entry 4 [.inr (.inr 109), .inl ((0 : Int)), .inl (mi_a h 145 (Int.toNat zk)), .inl ((0 : Int))]) [] h1 Q1 ∧ ∀ w h2, (∀ x, w = some x → mi_ok x) → Q1 w h2 → me_E (d + 6) 223 240 [some (.inr (.inr 109)), some (.inl (zf)), some (.inl (zn)), some (.inl (zc)), some (.inl (zk)), some (.inl ((0 : Int)))] (mi_back w []) h2 Q)) (k4 : (((0 : Int)) ≤ zk) → (((0 : Int)) < zk) → ((mi_a h 124 (Int.toNat (mi_a h 145 (Int.toNat (zk - ((1 : Int))))))) ≠ (mi_a h 145 (Int.toNat zk))) → (((0 : Int)) ≤ (mi_a h 124 (Int.toNat (mi_a h 145 (Int.toNat zk))))) → ((-2147483648 ≤ zk - ((1 : Int)) ∧ zk - ((1 : Int)) ≤ 2147483647) ∧ (0 ≤ (zk - ((1 : Int))) ∧ (zk - ((1 : Int))) < 100) ∧ (0 ≤ (mi_a h 145 (Int.toNat (zk - ((1 : Int))))) ∧ (mi_a h 145 (Int.toNat (zk - ((1 : Int))))) < 60) ∧ (0 ≤ zk ∧ zk < 100) ∧ (0 ≤ (mi_a h 145 (Int.toNat zk)) ∧ (mi_a h 145 (Int.toNat zk)) < 60)) ∧ (∀ h1, ab_Sh sx_sk h1 → ab_Fr [] h h1 → ∃ Q1, me_E (d + 5) 209 0 (mi_entry 4 [.inr (.inr 109), .inl ((0 : Int)), .inl (mi_a h 145 (Int.toNat zk)), .inl ((1 : Int))]) [] h1 Q1 ∧ ∀ w h2, (∀ x, w = some x → mi_ok x) → Q1 w h2 → me_E (d + 6) 223 240 [some (.inr (.inr 109)), some (.inl (zf)), some (.inl (zn)), some (.inl (zc)), some (.inl (zk)), some (.inl ((0 : Int)))] (mi_back w []) h2 Q)) (k5 : (((0 : Int)) ≤ zk) → (((0 : Int)) < zk) → ((mi_a h 124 (Int.toNat (mi_a h 145 (Int.toNat (zk - ((1 : Int))))))) = (mi_a h 145 (Int.toNat zk))) → ((-2147483648 ≤ zk - ((1 : Int)) ∧ zk - ((1 : Int)) ≤ 2147483647) ∧ (0 ≤ (zk - ((1 : Int))) ∧ (zk - ((1 : Int))) < 100) ∧ (0 ≤ (mi_a h 145 (Int.toNat (zk - ((1 : Int))))) ∧ (mi_a h 145 (Int.toNat (zk - ((1 : Int))))) < 60) ∧ (0 ≤ zk ∧ zk < 100)) ∧ (∀ h1, ab_Sh sx_sk h1 → ab_Fr [] h h1 → ∃ Q1, me_E (d + 5) 209 0 (mi_entry 4 [.inr (.inr 109), .inl ((4 : Int)), .inl ((0 : Int)), .inl ((0 : Int))]) [] h1 Q1 ∧ ∀ w h2, (∀ x, w = some x → mi_ok x) → Q1 w h2 → me_E (d + 6) 223 208 [some (.inr (.inr 109)), some (.inl (zf)), some (.inl (zn)), some (.inl (zc)), some (.inl (zk)), some (.inl ((1 : Int)))] (mi_back w []) h2 Q)) : me_E (d + 6) 223 155 [some (.inr (.inr 109)), some (.inl (zf)), some (.inl (zn)), some (.inl (zc)), some (.inl (zk)), zs] [] h Q := Or.elim (mi_em .lt (zk) (((0 : Int)))) (fun c0 => ms_chI_0 hS ok_zf ok_zn ok_zc ok_zk ok_zs (c0) (fun h1 W => (k0 c0) h1 W.1 (W.2.2.2.2.2 _ rfl))) (fun c0 => Or.elim (mi_em .le (zk) (((0 : Int)))) (fun c1 => Or.elim (mi_em .lt ((mi_a h 124 (Int.toNat (mi_a h 145 (Int.toNat zk))))) (((0 : Int)))) (fun c2 => ms_chI_1 hS ok_zf ok_zn ok_zc ok_zk ok_zs ⟨c0, c1, (by decide), (k1 c0 c1 c2).1.1, (k1 c0 c1 c2).1.1, (k1 c0 c1 c2).1.2, c2⟩ (fun h1 W => (k1 c0 c1 c2).2 h1 W.1 (W.2.2.2.2.2 _ rfl))) (fun c2 => ms_chI_2 hS ok_zf ok_zn ok_zc ok_zk ok_zs ⟨c0, c1, (by decide), (k2 c0 c1 c2).1.1, (k2 c0 c1 c2).1.1, (k2 c0 c1 c2).1.2, c2⟩ (fun h1 W => (k2 c0 c1 c2).2 h1 W.1 (W.2.2.2.2.2 _ rfl)))) (fun c1 => Or.elim (mi_em .ne ((mi_a h 124 (Int.toNat (mi_a h 145 (Int.toNat (zk - ((1 : Int)))))))) ((mi_a h 145 (Int.toNat zk)))) (fun c2 => Or.elim (mi_em .lt ((mi_a h 124 (Int.toNat (mi_a h 145 (Int.toNat zk))))) (((0 : Int)))) (fun c3 => ms_chI_3 hS ok_zf ok_zn ok_zc ok_zk ok_zs ⟨c0, c1, (k3 c0 c1 c2 c3).1.1, (k3 c0 c1 c2 c3).1.2.1, (k3 c0 c1 c2 c3).1.2.2.1, (k3 c0 c1 c2 c3).1.2.2.2.1, c2, (by decide), (k3 c0 c1 c2 c3).1.2.2.2.1, (k3 c0 c1 c2 c3).1.2.2.2.1, (k3 c0 c1 c2 c3).1.2.2.2.2, c3⟩ (fun h1 W => (k3 c0 c1 c2 c3).2 h1 W.1 (W.2.2.2.2.2 _ rfl))) (fun c3 => ms_chI_4 hS ok_zf ok_zn ok_zc ok_zk ok_zs ⟨c0, c1, (k4 c0 c1 c2 c3).1.1, (k4 c0 c1 c2 c3).1.2.1, (k4 c0 c1 c2 c3).1.2.2.1, (k4 c0 c1 c2 c3).1.2.2.2.1, c2, (by decide), (k4 c0 c1 c2 c3).1.2.2.2.1, (k4 c0 c1 c2 c3).1.2.2.2.1, (k4 c0 c1 c2 c3).1.2.2.2.2, c3⟩ (fun h1 W => (k4 c0 c1 c2 c3).2 h1 W.1 (W.2.2.2.2.2 _ rfl)))) (fun c2 => ms_chI_5 hS ok_zf ok_zn ok_zc ok_zk ok_zs ⟨c0, c1, (k5 c0 c1 c2).1.1, (k5 c0 c1 c2).1.2.1, (k5 c0 c1 c2).1.2.2.1, (k5 c0 c1 c2).1.2.2.2, c2, (by decide)⟩ (fun h1 W => (k5 c0 c1 c2).2 h1 W.1 (W.2.2.2.2.2 _ rfl)))))
set_option maxRecDepth 20000 in
theorem mp_chJ_0 (h : sm_H) (d : Nat) (zf zn zc zk zs : Int) : mi_path [(223, (6, 0, sb_223))] sx_sk h 15 [1] (d + 6, 223, 208, [some (.inr (.inr 109)), some (.inl (zf)), some (.inl (zn)), some (.inl (zc)), some (.inl (zk)), some (.inl (zs))], [], [], []) = some ((d + 6, 223, 237, [some (.inr (.inr 109)), some (.inl (zf)), some (.inl (zn)), some (.inl (zc)), some (.inl (zk)), some (.inl (zs))], [.inl ((0 : Int)), .inl (mi_a h 145 (Int.toNat zk)), .inl ((0 : Int)), .inr (.inr 109)], [], []), [0 ≤ zk ∧ zk < 100, 0 ≤ zk ∧ zk < 100, 0 ≤ (mi_a h 145 (Int.toNat zk)) ∧ (mi_a h 145 (Int.toNat zk)) < 60, (mi_a h 124 (Int.toNat (mi_a h 145 (Int.toNat zk)))) < ((0 : Int))]) := rfl
theorem mi_tab_chJ_0 : ∀ e ∈ ([(223, (6, 0, sb_223))] : mi_T), sc_P e.1 = some e.2 := mi_tb mi_P223 (mi_tb_e)
set_option maxRecDepth 20000 in
theorem ms_chJ_0 {h : sm_H} {d : Nat} {Q : Option mi_V → sm_H → Prop} {zf zn zc zk zs : Int} (hS : ab_Sh sx_sk h) (ok_zf : mi_in zf) (ok_zn : mi_in zn) (ok_zc : mi_in zc) (ok_zk : mi_in zk) (ok_zs : mi_in zs) (ho : (0 ≤ zk ∧ zk < 100) ∧ (0 ≤ zk ∧ zk < 100) ∧ (0 ≤ (mi_a h 145 (Int.toNat zk)) ∧ (mi_a h 145 (Int.toNat zk)) < 60) ∧ ((mi_a h 124 (Int.toNat (mi_a h 145 (Int.toNat zk)))) < ((0 : Int)))) (kon : ∀ h1, me_W [] h h1 → ∃ Q1, me_E (d + 5) 209 0 (mi_entry 4 [.inr (.inr 109), .inl ((0 : Int)), .inl (mi_a h 145 (Int.toNat zk)), .inl ((0 : Int))]) [] h1 Q1 ∧ ∀ w h2, (∀ x, w = some x → mi_ok x) → Q1 w h2 → me_E (d + 6) 223 240 [some (.inr (.inr 109)), some (.inl (zf)), some (.inl (zn)), some (.inl (zc)), some (.inl (zk)), some (.inl (zs))] (mi_back w []) h2 Q) : me_E (d + 6) 223 208 [some (.inr (.inr 109)), some (.inl (zf)), some (.inl (zn)), some (.inl (zc)), some (.inl (zk)), some (.inl (zs))] [] h Q := me_seg (mp_chJ_0 h d zf zn zc zk zs) (mi_tab_chJ_0) hS (mi_okL_c (trivial) (mi_okL_c (ok_zf) (mi_okL_c (ok_zn) (mi_okL_c (ok_zc) (mi_okL_c (ok_zk) (mi_okL_c (ok_zs) (mi_okL_e))))))) (mi_okS_e) (mi_al (ho.1) (mi_al (ho.2.1) (mi_al (ho.2.2.1) (mi_al (ho.2.2.2) (mi_al_e))))) (fun h1 W _ hst => let ⟨_, k1, k2⟩ := kon h1 W; me_call (M := (6, 0, sb_223)) (M' := (4, 0, sb_209)) rfl rfl rfl rfl (Nat.le_of_ble_eq_true rfl) (Nat.le_of_ble_eq_true rfl) W.1 k1 k2)
set_option maxRecDepth 20000 in
theorem mp_chJ_1 (h : sm_H) (d : Nat) (zf zn zc zk zs : Int) : mi_path [(223, (6, 0, sb_223))] sx_sk h 16 [0] (d + 6, 223, 208, [some (.inr (.inr 109)), some (.inl (zf)), some (.inl (zn)), some (.inl (zc)), some (.inl (zk)), some (.inl (zs))], [], [], []) = some ((d + 6, 223, 237, [some (.inr (.inr 109)), some (.inl (zf)), some (.inl (zn)), some (.inl (zc)), some (.inl (zk)), some (.inl (zs))], [.inl ((1 : Int)), .inl (mi_a h 145 (Int.toNat zk)), .inl ((0 : Int)), .inr (.inr 109)], [], []), [0 ≤ zk ∧ zk < 100, 0 ≤ zk ∧ zk < 100, 0 ≤ (mi_a h 145 (Int.toNat zk)) ∧ (mi_a h 145 (Int.toNat zk)) < 60, ((0 : Int)) ≤ (mi_a h 124 (Int.toNat (mi_a h 145 (Int.toNat zk))))]) := rfl
theorem mi_tab_chJ_1 : ∀ e ∈ ([(223, (6, 0, sb_223))] : mi_T), sc_P e.1 = some e.2 := mi_tb mi_P223 (mi_tb_e)
set_option maxRecDepth 20000 in
theorem ms_chJ_1 {h : sm_H} {d : Nat} {Q : Option mi_V → sm_H → Prop} {zf zn zc zk zs : Int} (hS : ab_Sh sx_sk h) (ok_zf : mi_in zf) (ok_zn : mi_in zn) (ok_zc : mi_in zc) (ok_zk : mi_in zk) (ok_zs : mi_in zs) (ho : (0 ≤ zk ∧ zk < 100) ∧ (0 ≤ zk ∧ zk < 100) ∧ (0 ≤ (mi_a h 145 (Int.toNat zk)) ∧ (mi_a h 145 (Int.toNat zk)) < 60) ∧ (((0 : Int)) ≤ (mi_a h 124 (Int.toNat (mi_a h 145 (Int.toNat zk)))))) (kon : ∀ h1, me_W [] h h1 → ∃ Q1, me_E (d + 5) 209 0 (mi_entry 4 [.inr (.inr 109), .inl ((0 : Int)), .inl (mi_a h 145 (Int.toNat zk)), .inl ((1 : Int))]) [] h1 Q1 ∧ ∀ w h2, (∀ x, w = some x → mi_ok x) → Q1 w h2 → me_E (d + 6) 223 240 [some (.inr (.inr 109)), some (.inl (zf)), some (.inl (zn)), some (.inl (zc)), some (.inl (zk)), some (.inl (zs))] (mi_back w []) h2 Q) : me_E (d + 6) 223 208 [some (.inr (.inr 109)), some (.inl (zf)), some (.inl (zn)), some (.inl (zc)), some (.inl (zk)), some (.inl (zs))] [] h Q := me_seg (mp_chJ_1 h d zf zn zc zk zs) (mi_tab_chJ_1) hS (mi_okL_c (trivial) (mi_okL_c (ok_zf) (mi_okL_c (ok_zn) (mi_okL_c (ok_zc) (mi_okL_c (ok_zk) (mi_okL_c (ok_zs) (mi_okL_e))))))) (mi_okS_e) (mi_al (ho.1) (mi_al (ho.2.1) (mi_al (ho.2.2.1) (mi_al (ho.2.2.2) (mi_al_e))))) (fun h1 W _ hst => let ⟨_, k1, k2⟩ := kon h1 W; me_call (M := (6, 0, sb_223)) (M' := (4, 0, sb_209)) rfl rfl rfl rfl (Nat.le_of_ble_eq_true rfl) (Nat.le_of_ble_eq_true rfl) W.1 k1 k2)
set_option maxRecDepth 20000 in
theorem mt_chJ {h : sm_H} {d : Nat} {Q : Option mi_V → sm_H → Prop} {zf zn zc zk zs : Int} (hS : ab_Sh sx_sk h) (ok_zf : mi_in zf) (ok_zn : mi_in zn) (ok_zc : mi_in zc) (ok_zk : mi_in zk) (ok_zs : mi_in zs) (k0 : ((mi_a h 124 (Int.toNat (mi_a h 145 (Int.toNat zk)))) < ((0 : Int))) → ((0 ≤ zk ∧ zk < 100) ∧ (0 ≤ (mi_a h 145 (Int.toNat zk)) ∧ (mi_a h 145 (Int.toNat zk)) < 60)) ∧ (∀ h1, ab_Sh sx_sk h1 → ab_Fr [] h h1 → ∃ Q1, me_E (d + 5) 209 0 (mi_entry 4 [.inr (.inr 109), .inl ((0 : Int)), .inl (mi_a h 145 (Int.toNat zk)), .inl ((0 : Int))]) [] h1 Q1 ∧ ∀ w h2, (∀ x, w = some x → mi_ok x) → Q1 w h2 → me_E (d + 6) 223 240 [some (.inr (.inr 109)), some (.inl (zf)), some (.inl (zn)), some (.inl (zc)), some (.inl (zk)), some (.inl (zs))] (mi_back w []) h2 Q)) (k1 : (((0 : Int)) ≤ (mi_a h 124 (Int.toNat (mi_a h 145 (Int.toNat zk))))) → ((0 ≤ zk ∧ zk < 100) ∧ (0 ≤ (mi_a h 145 (Int.toNat zk)) ∧ (mi_a h 145 (Int.toNat zk)) < 60)) ∧ (∀ h1, ab_Sh sx_sk h1 → ab_Fr [] h h1 → ∃ Q1, me_E (d + 5) 209 0 (mi_entry 4 [.inr (.inr 109), .inl ((0 : Int)), .inl (mi_a h 145 (Int.toNat zk)), .inl ((1 : Int))]) [] h1 Q1 ∧ ∀ w h2, (∀ x, w = some x → mi_ok x) → Q1 w h2 → me_E (d + 6) 223 240 [some (.inr (.inr 109)), some (.inl (zf)), some (.inl (zn)), some (.inl (zc)), some (.inl (zk)), some (.inl (zs))] (mi_back w []) h2 Q)) : me_E (d + 6) 223 208 [some (.inr (.inr 109)), some (.inl (zf)), some (.inl (zn)), some (.inl (zc)), some (.inl (zk)), some (.inl (zs))] [] h Q := Or.elim (mi_em .lt ((mi_a h 124 (Int.toNat (mi_a h 145 (Int.toNat zk))))) (((0 : Int)))) (fun c0 => ms_chJ_0 hS ok_zf ok_zn ok_zc ok_zk ok_zs ⟨(k0 c0).1.1, (k0 c0).1.1, (k0 c0).1.2, c0⟩ (fun h1 W => (k0 c0).2 h1 W.1 (W.2.2.2.2.2 _ rfl))) (fun c0 => ms_chJ_1 hS ok_zf ok_zn ok_zc ok_zk ok_zs ⟨(k1 c0).1.1, (k1 c0).1.1, (k1 c0).1.2, c0⟩ (fun h1 W => (k1 c0).2 h1 W.1 (W.2.2.2.2.2 _ rfl)))
set_option maxRecDepth 20000 in
theorem mp_chK_0 (h : sm_H) (d : Nat) (zf zn zc zk zs : Int) : mi_path [(223, (6, 0, sb_223))] sx_sk h 4 [1] (d + 6, 223, 240, [some (.inr (.inr 109)), some (.inl (zf)), some (.inl (zn)), some (.inl (zc)), some (.inl (zk)), some (.inl (zs))], [], [], []) = some ((d + 6, 223, 155, [some (.inr (.inr 109)), some (.inl (zf)), some (.inl (zn)), some (.inl (zc)), some (.inl (zk + (-1))), some (.inl (zs))], [], [], []), [zs = ((0 : Int)), -2147483648 ≤ zk + (-1) ∧ zk + (-1) ≤ 2147483647]) := rfl
theorem mi_tab_chK_0 : ∀ e ∈ ([(223, (6, 0, sb_223))] : mi_T), sc_P e.1 = some e.2 := mi_tb mi_P223 (mi_tb_e)
set_option maxRecDepth 20000 in
theorem ms_chK_0 {h : sm_H} {d : Nat} {Q : Option mi_V → sm_H → Prop} {zf zn zc zk zs : Int} (hS : ab_Sh sx_sk h) (ok_zf : mi_in zf) (ok_zn : mi_in zn) (ok_zc : mi_in zc) (ok_zk : mi_in zk) (ok_zs : mi_in zs) (ho : (zs = ((0 : Int))) ∧ (-2147483648 ≤ zk + (-1) ∧ zk + (-1) ≤ 2147483647)) (kon : ∀ h1, me_W [] h h1 → me_E (d + 6) 223 155 [some (.inr (.inr 109)), some (.inl (zf)), some (.inl (zn)), some (.inl (zc)), some (.inl (zk + (-1))), some (.inl (zs))] [] h1 Q) : me_E (d + 6) 223 240 [some (.inr (.inr 109)), some (.inl (zf)), some (.inl (zn)), some (.inl (zc)), some (.inl (zk)), some (.inl (zs))] [] h Q := me_seg (mp_chK_0 h d zf zn zc zk zs) (mi_tab_chK_0) hS (mi_okL_c (trivial) (mi_okL_c (ok_zf) (mi_okL_c (ok_zn) (mi_okL_c (ok_zc) (mi_okL_c (ok_zk) (mi_okL_c (ok_zs) (mi_okL_e))))))) (mi_okS_e) (mi_al (ho.1) (mi_al (ho.2) (mi_al_e))) (fun h1 W _ hst => kon h1 W)
set_option maxRecDepth 20000 in
theorem mp_chK_1 (h : sm_H) (d : Nat) (zf zn zc zk zs : Int) : mi_path [(223, (6, 0, sb_223))] sx_sk h 6 [0] (d + 6, 223, 240, [some (.inr (.inr 109)), some (.inl (zf)), some (.inl (zn)), some (.inl (zc)), some (.inl (zk)), some (.inl (zs))], [], [], []) = some ((d + 6, 223, 249, [some (.inr (.inr 109)), some (.inl (zf)), some (.inl (zn)), some (.inl (zc)), some (.inl (zk)), some (.inl (zs))], [.inl ((0 : Int)), .inl ((0 : Int)), .inl ((3 : Int)), .inr (.inr 109)], [], []), [zs ≠ ((0 : Int))]) := rfl
theorem mi_tab_chK_1 : ∀ e ∈ ([(223, (6, 0, sb_223))] : mi_T), sc_P e.1 = some e.2 := mi_tb mi_P223 (mi_tb_e)
set_option maxRecDepth 20000 in
theorem ms_chK_1 {h : sm_H} {d : Nat} {Q : Option mi_V → sm_H → Prop} {zf zn zc zk zs : Int} (hS : ab_Sh sx_sk h) (ok_zf : mi_in zf) (ok_zn : mi_in zn) (ok_zc : mi_in zc) (ok_zk : mi_in zk) (ok_zs : mi_in zs) (ho : (zs ≠ ((0 : Int)))) (kon : ∀ h1, me_W [] h h1 → ∃ Q1, me_E (d + 5) 209 0 (mi_entry 4 [.inr (.inr 109), .inl ((3 : Int)), .inl ((0 : Int)), .inl ((0 : Int))]) [] h1 Q1 ∧ ∀ w h2, (∀ x, w = some x → mi_ok x) → Q1 w h2 → me_E (d + 6) 223 252 [some (.inr (.inr 109)), some (.inl (zf)), some (.inl (zn)), some (.inl (zc)), some (.inl (zk)), some (.inl (zs))] (mi_back w []) h2 Q) : me_E (d + 6) 223 240 [some (.inr (.inr 109)), some (.inl (zf)), some (.inl (zn)), some (.inl (zc)), some (.inl (zk)), some (.inl (zs))] [] h Q := me_seg (mp_chK_1 h d zf zn zc zk zs) (mi_tab_chK_1) hS (mi_okL_c (trivial) (mi_okL_c (ok_zf) (mi_okL_c (ok_zn) (mi_okL_c (ok_zc) (mi_okL_c (ok_zk) (mi_okL_c (ok_zs) (mi_okL_e))))))) (mi_okS_e) (mi_al (ho) (mi_al_e)) (fun h1 W _ hst => let ⟨_, k1, k2⟩ := kon h1 W; me_call (M := (6, 0, sb_223)) (M' := (4, 0, sb_209)) rfl rfl rfl rfl (Nat.le_of_ble_eq_true rfl) (Nat.le_of_ble_eq_true rfl) W.1 k1 k2)
set_option maxRecDepth 20000 in
theorem mt_chK {h : sm_H} {d : Nat} {Q : Option mi_V → sm_H → Prop} {zf zn zc zk zs : Int} (hS : ab_Sh sx_sk h) (ok_zf : mi_in zf) (ok_zn : mi_in zn) (ok_zc : mi_in zc) (ok_zk : mi_in zk) (ok_zs : mi_in zs) (k0 : (zs = ((0 : Int))) → ((-2147483648 ≤ zk + (-1) ∧ zk + (-1) ≤ 2147483647)) ∧ (∀ h1, ab_Sh sx_sk h1 → ab_Fr [] h h1 → me_E (d + 6) 223 155 [some (.inr (.inr 109)), some (.inl (zf)), some (.inl (zn)), some (.inl (zc)), some (.inl (zk + (-1))), some (.inl (zs))] [] h1 Q)) (k1 : (zs ≠ ((0 : Int))) → (∀ h1, ab_Sh sx_sk h1 → ab_Fr [] h h1 → ∃ Q1, me_E (d + 5) 209 0 (mi_entry 4 [.inr (.inr 109), .inl ((3 : Int)), .inl ((0 : Int)), .inl ((0 : Int))]) [] h1 Q1 ∧ ∀ w h2, (∀ x, w = some x → mi_ok x) → Q1 w h2 → me_E (d + 6) 223 252 [some (.inr (.inr 109)), some (.inl (zf)), some (.inl (zn)), some (.inl (zc)), some (.inl (zk)), some (.inl (zs))] (mi_back w []) h2 Q)) : me_E (d + 6) 223 240 [some (.inr (.inr 109)), some (.inl (zf)), some (.inl (zn)), some (.inl (zc)), some (.inl (zk)), some (.inl (zs))] [] h Q := Or.elim (mi_em .eq (zs) (((0 : Int)))) (fun c0 => ms_chK_0 hS ok_zf ok_zn ok_zc ok_zk ok_zs ⟨c0, (k0 c0).1⟩ (fun h1 W => (k0 c0).2 h1 W.1 (W.2.2.2.2.2 _ rfl))) (fun c0 => ms_chK_1 hS ok_zf ok_zn ok_zc ok_zk ok_zs (c0) (fun h1 W => (k1 c0) h1 W.1 (W.2.2.2.2.2 _ rfl)))
set_option maxRecDepth 20000 in
theorem mp_chL_0 (h : sm_H) (d : Nat) (zf zn zc zk zs : Int) : mi_path [(223, (6, 0, sb_223))] sx_sk h 2 [] (d + 6, 223, 252, [some (.inr (.inr 109)), some (.inl (zf)), some (.inl (zn)), some (.inl (zc)), some (.inl (zk)), some (.inl (zs))], [], [], []) = some ((d + 6, 223, 155, [some (.inr (.inr 109)), some (.inl (zf)), some (.inl (zn)), some (.inl (zc)), some (.inl (zk + (-1))), some (.inl (zs))], [], [], []), [-2147483648 ≤ zk + (-1) ∧ zk + (-1) ≤ 2147483647]) := rfl
theorem mi_tab_chL_0 : ∀ e ∈ ([(223, (6, 0, sb_223))] : mi_T), sc_P e.1 = some e.2 := mi_tb mi_P223 (mi_tb_e)
set_option maxRecDepth 20000 in
theorem ms_chL_0 {h : sm_H} {d : Nat} {Q : Option mi_V → sm_H → Prop} {zf zn zc zk zs : Int} (hS : ab_Sh sx_sk h) (ok_zf : mi_in zf) (ok_zn : mi_in zn) (ok_zc : mi_in zc) (ok_zk : mi_in zk) (ok_zs : mi_in zs) (ho : (-2147483648 ≤ zk + (-1) ∧ zk + (-1) ≤ 2147483647)) (kon : ∀ h1, me_W [] h h1 → me_E (d + 6) 223 155 [some (.inr (.inr 109)), some (.inl (zf)), some (.inl (zn)), some (.inl (zc)), some (.inl (zk + (-1))), some (.inl (zs))] [] h1 Q) : me_E (d + 6) 223 252 [some (.inr (.inr 109)), some (.inl (zf)), some (.inl (zn)), some (.inl (zc)), some (.inl (zk)), some (.inl (zs))] [] h Q := me_seg (mp_chL_0 h d zf zn zc zk zs) (mi_tab_chL_0) hS (mi_okL_c (trivial) (mi_okL_c (ok_zf) (mi_okL_c (ok_zn) (mi_okL_c (ok_zc) (mi_okL_c (ok_zk) (mi_okL_c (ok_zs) (mi_okL_e))))))) (mi_okS_e) (mi_al (ho) (mi_al_e)) (fun h1 W _ hst => kon h1 W)
set_option maxRecDepth 20000 in
theorem mt_chL {h : sm_H} {d : Nat} {Q : Option mi_V → sm_H → Prop} {zf zn zc zk zs : Int} (hS : ab_Sh sx_sk h) (ok_zf : mi_in zf) (ok_zn : mi_in zn) (ok_zc : mi_in zc) (ok_zk : mi_in zk) (ok_zs : mi_in zs) (k0 : ((-2147483648 ≤ zk + (-1) ∧ zk + (-1) ≤ 2147483647)) ∧ (∀ h1, ab_Sh sx_sk h1 → ab_Fr [] h h1 → me_E (d + 6) 223 155 [some (.inr (.inr 109)), some (.inl (zf)), some (.inl (zn)), some (.inl (zc)), some (.inl (zk + (-1))), some (.inl (zs))] [] h1 Q)) : me_E (d + 6) 223 252 [some (.inr (.inr 109)), some (.inl (zf)), some (.inl (zn)), some (.inl (zc)), some (.inl (zk)), some (.inl (zs))] [] h Q := ms_chL_0 hS ok_zf ok_zn ok_zc ok_zk ok_zs ((k0).1) (fun h1 W => (k0).2 h1 W.1 (W.2.2.2.2.2 _ rfl))
/-! directed, lowest; the items are put on the stack -/
def wk_fa (g : wk_g) (f : Int) : Prop := 1 ≤ g 130 f.toNat ∧ wk_alt g (g 130 f.toNat).toNat (g 129 f.toNat) < 0 ∧ ∀ j : Nat, (j : Int) < g 130 f.toNat → 0 ≤ wk_alt g j (g 129 f.toNat) ∧ wk_alt g j (g 129 f.toNat) < 80
theorem wk_alt_succ (g : wk_g) : ∀ (n : Nat) (a : Int), wk_alt g (n + 1) a = g 128 (wk_alt g n a).toNat := by
  intro n
  induction n with
  | zero => intro a; rfl
  | succ n ih => intro a; exact ih (g 128 a.toNat)
section DIR
variable {d : Nat} {h : sm_H} {zf : Int}
theorem wk_fa_at {g : wk_g} {f : Int} (hf : wk_fa g f) {j : Nat} (hj : (j : Int) ≤ g 130 f.toNat) : (wk_alt g j (g 129 f.toNat) < 0 ∧ (j : Int) = g 130 f.toNat) ∨ (0 ≤ wk_alt g j (g 129 f.toNat) ∧ wk_alt g j (g 129 f.toNat) < 80 ∧ (j : Int) < g 130 f.toNat) := by
  rcases Int.lt_or_eq_of_le hj with e | e
  · exact Or.inr ⟨(hf.2.2 j e).1, (hf.2.2 j e).2, e⟩
  · refine Or.inl ⟨?_, e⟩
    have := hf.2.1
    rw [← e] at this
    simpa using this
theorem me_diB (hS : ab_Sh sx_sk h) (hn0 : 0 ≤ mi_f h 14033) (hn1 : mi_f h 14033 ≤ 160) (hf0 : 0 ≤ zf) (hf1 : zf < 80) (hf : wk_fa (mi_a h) zf) : ∀ (N : Nat) (j : Nat), (mi_a h 130 zf.toNat) - j < N → (j : Int) ≤ mi_a h 130 zf.toNat → me_E (d + 1) 224 9 [some (.inr (.inr 109)), some (.inl zf), some (.inl (j : Int)), some (.inl (wk_alt (mi_a h) j (mi_a h 129 zf.toNat)))] [] h (fun w h' => h' = h ∧ ∃ z, w = some (.inl z) ∧ -1 ≤ z ∧ z < mi_a h 130 zf.toNat) := by
  have of : mi_in zf := ⟨by omega, by omega⟩
  have b130 := me_ab (k := 130) (i := zf.toNat) hS rfl (by decide) (by omega)
  intro N
  induction N with
  | zero => intro j h1 h2; omega
  | succ N ih =>
    intro j h1 h2
    have hc := wk_fa_at hf h2
    have es := wk_alt_succ (mi_a h) j (mi_a h 129 zf.toNat)
    generalize ha : wk_alt (mi_a h) j (mi_a h 129 zf.toNat) = a at hc es ⊢
    have oj : mi_in (j : Int) := ⟨by omega, by omega⟩
    have oa : mi_in a := by
      rw [← ha]
      cases j with
      | zero => exact mi_inT _
      | succ j => rw [wk_alt_succ]; exact mi_inT _
    have go : ∀ w h2, (∀ x, w = some x → mi_ok x) → (ab_Sh sx_sk h2 ∧ h2 = h ∧ ∃ z, w = some (.inl z) ∧ 0 ≤ z ∧ z ≤ 1) → 0 ≤ a → a < 80 → (j : Int) < mi_a h 130 zf.toNat → me_E (d + 1) 224 23 [some (.inr (.inr 109)), some (.inl zf), some (.inl (j : Int)), some (.inl a)] (mi_back w []) h2 (fun w h' => h' = h ∧ ∃ z, w = some (.inl z) ∧ -1 ≤ z ∧ z < mi_a h 130 zf.toNat) := by
      intro w h2 hw hq a0 a1 jl
      obtain ⟨q1, rfl, z, rfl, z1, z2⟩ := hq
      refine mt_diC q1 of oj oa (hw _ rfl) ?_ ?_
      · intro c
        refine ⟨by omega, fun h3 r1 r2 => ?_⟩
        have e3 := me_nil r2
        subst e3
        have := ih (j + 1) (by omega) (by omega)
        rw [es] at this
        exact this
      · intro c h3 r1 r2
        exact ⟨me_nil r2, (j : Int), rfl, by omega, jl⟩
    refine mt_diB hS of oj oa ?_ ?_ ?_
    · intro c h3 r1 r2
      exact ⟨me_nil r2, -1, rfl, by decide, by omega⟩
    · intro c1 c2
      refine ⟨by omega, fun h3 r1 r2 => ?_⟩
      have e3 := me_nil r2
      subst e3
      exact ⟨_, me_has hS hn0 hn1, fun w h2 hw hq => go w h2 hw hq (by omega) (by omega) (by omega)⟩
    · intro c1 c2
      refine ⟨by omega, fun h3 r1 r2 => ?_⟩
      have e3 := me_nil r2
      subst e3
      exact ⟨_, me_has hS hn0 hn1, fun w h2 hw hq => go w h2 hw hq (by omega) (by omega) (by omega)⟩
theorem me_directed (hS : ab_Sh sx_sk h) (hn0 : 0 ≤ mi_f h 14033) (hn1 : mi_f h 14033 ≤ 160) (hf0 : 0 ≤ zf) (hf1 : zf < 80) (hf : wk_fa (mi_a h) zf) : me_E (d + 1) 224 0 [some (.inr (.inr 109)), some (.inl zf), none, none] [] h (fun w h' => h' = h ∧ ∃ z, w = some (.inl z) ∧ -1 ≤ z ∧ z < mi_a h 130 zf.toNat) := by
  refine mt_diA hS ⟨by omega, by omega⟩ ?_
  refine ⟨by omega, fun h3 r1 r2 => ?_⟩
  have e3 := me_nil r2
  subst e3
  have b130 := me_ab (k := 130) (i := zf.toNat) hS rfl (by decide) (by omega)
  exact me_diB hS hn0 hn1 hf0 hf1 hf 10 0 (by omega) (by have := hf.1; omega)
theorem me_loB (hS : ab_Sh sx_sk h) (hf0 : 0 ≤ zf) (hf1 : zf < 80) (hf : wk_fa (mi_a h) zf) : ∀ (N : Nat) (j : Nat) (zb zh : Int), (mi_a h 130 zf.toNat) - j < N → (j : Int) ≤ mi_a h 130 zf.toNat → 0 ≤ zb → zb < mi_a h 130 zf.toNat → mi_in zh → me_E d 225 17 [some (.inr (.inr 109)), some (.inl zf), some (.inl (j : Int)), some (.inl zb), some (.inl zh), some (.inl (wk_alt (mi_a h) j (mi_a h 129 zf.toNat)))] [] h (fun w h' => h' = h ∧ ∃ z, w = some (.inl z) ∧ 0 ≤ z ∧ z < mi_a h 130 zf.toNat) := by
  have of : mi_in zf := ⟨by omega, by omega⟩
  have b130 := me_ab (k := 130) (i := zf.toNat) hS rfl (by decide) (by omega)
  intro N
  induction N with
  | zero => intro j zb zh h1 h2; omega
  | succ N ih =>
    intro j zb zh h1 h2 h3 h4 oh
    have hc := wk_fa_at hf h2
    have es := wk_alt_succ (mi_a h) j (mi_a h 129 zf.toNat)
    generalize ha : wk_alt (mi_a h) j (mi_a h 129 zf.toNat) = a at hc es ⊢
    have oj : mi_in (j : Int) := ⟨by omega, by omega⟩
    have ob : mi_in zb := ⟨by omega, by omega⟩
    have oa : mi_in a := by
      rw [← ha]
      cases j with
      | zero => exact mi_inT _
      | succ j => rw [wk_alt_succ]; exact mi_inT _
    refine mt_loB hS of oj ob oh oa ?_ ?_ ?_
    · intro c h3' r1 r2
      exact ⟨me_nil r2, zb, rfl, h3, h4⟩
    · intro c1 c2
      refine ⟨by omega, fun h3' r1 r2 => ?_⟩
      have e3 := me_nil r2
      subst e3
      have := ih (j + 1) zb zh (by omega) (by omega) h3 h4 oh
      rw [es] at this
      exact this
    · intro c1 c2
      refine ⟨by omega, fun h3' r1 r2 => ?_⟩
      have e3 := me_nil r2
      subst e3
      have := ih (j + 1) (j : Int) (mi_a h3' 143 a.toNat) (by omega) (by omega) (by omega) (by omega) (mi_inT _)
      rw [es] at this
      exact this
theorem me_lowest (hS : ab_Sh sx_sk h) (hf0 : 0 ≤ zf) (hf1 : zf < 80) (hf : wk_fa (mi_a h) zf) : me_E d 225 0 [some (.inr (.inr 109)), some (.inl zf), none, none, none, none] [] h (fun w h' => h' = h ∧ ∃ z, w = some (.inl z) ∧ 0 ≤ z ∧ z < mi_a h 130 zf.toNat) := by
  refine mt_loA hS ⟨by omega, by omega⟩ ?_
  refine ⟨by omega, fun h3 r1 r2 => ?_⟩
  have e3 := me_nil r2
  subst e3
  have b130 := me_ab (k := 130) (i := zf.toNat) hS rfl (by decide) (by omega)
  have := hf.1
  exact me_loB hS hf0 hf1 hf 10 0 0 1001 (by omega) (by omega) (by decide) (by omega) ⟨by decide, by decide⟩
end DIR
/-! the items are put on the stack -/
def wr_pu : List (Nat × Nat) := [(14029, 14030), (21120, 21121), (21248, 21249), (21376, 21377)]
theorem me_push {h : sm_H} {d : Nat} {e0 e1 e2 : Int} (hS : ab_Sh sx_sk h) (o0 : mi_in e0) (o1 : mi_in e1) (o2 : mi_in e2) (t0 : 0 ≤ mi_f h 14029) (t1 : mi_f h 14029 < 3000) : me_E d 209 0 [some (.inr (.inr 109)), some (.inl e0), some (.inl e1), some (.inl e2)] [] h (fun w h' => w = none ∧ ab_Sh sx_sk h' ∧ ab_Fr wr_pu h h' ∧ mi_f h' 14029 = mi_f h 14029 + 1 ∧ wk_stk h' = (e0, e1, e2) :: wk_stk h) := by
  refine mt_push hS o0 o1 o2 ?_
  intro b
  refine ⟨by omega, fun h1 g1 g2 a5 a6 a7 g3 => ⟨rfl, g1, g3, g2, wk_push1 t0 g2 a5 a6 a7⟩⟩
/-- the element before -/
def wk_pv (L : List Int) : Nat → Int
  | 0 => -1
  | n + 1 => L.getD n 0
theorem wk_en_at (g : wk_g) (L : List Int) {N : Nat} {x : Int} (hx : L[N]? = some x) : wk_en g (wk_pv L N) (L.drop N) = (if 0 ≤ wk_pv L N ∧ g 124 (wk_pv L N).toNat = x then [(3, 0, 0), (0, x, if 0 ≤ g 124 x.toNat then 1 else 0), (4, 0, 0)] else [(0, x, if 0 ≤ g 124 x.toNat then 1 else 0)]) ++ wk_en g (wk_pv L (N + 1)) (L.drop (N + 1)) := by
  obtain ⟨hl, e⟩ := List.getElem?_eq_some_iff.mp hx
  have ed : L.drop N = x :: L.drop (N + 1) := by rw [List.drop_eq_getElem_cons hl, e]
  have ep : wk_pv L (N + 1) = x := by
    show L.getD N 0 = x
    rw [List.getD_eq_getElem?_getD, hx]
    rfl
  rw [ed, ep]
  rfl
theorem wk_en_len (g : wk_g) (L : List Int) : ∀ N, N ≤ L.length → (wk_en g (wk_pv L N) (L.drop N)).length ≤ (wk_en g (wk_pv L 0) (L.drop 0)).length := by
  intro N
  induction N with
  | zero => intro _; exact Nat.le_refl _
  | succ N ih =>
    intro hN
    have := ih (by omega)
    rw [wk_en_at g L (List.getElem?_eq_getElem (by omega : N < L.length)), List.length_append] at this
    omega
section CHO
variable {d : Nat} {zf zn zc : Int}
theorem ch155 (g : wk_g) (L : List Int) (S : List wk_E) (of : mi_in zf) (on : mi_in zn) (oc : mi_in zc) (hT : (wk_en g (-1) L).length + S.length ≤ 2999) (hL60 : L.length ≤ 60) (hx : ∀ (k : Nat) (x : Int), L[k]? = some x → 0 ≤ x ∧ x < 60) : ∀ (N : Nat) (zs : Option mi_V) (h : sm_H), N ≤ L.length → (∀ v, zs = some v → mi_ok v) → ab_Sh sx_sk h → (∀ i, mi_a h 124 i = g 124 i) → (∀ (k : Nat) (x : Int), L[k]? = some x → mi_a h 145 k = x) → 0 ≤ mi_f h 14029 → wk_stk h = wk_en g (wk_pv L N) (L.drop N) ++ S → me_E (d + 6) 223 155 [some (.inr (.inr 109)), some (.inl zf), some (.inl zn), some (.inl zc), some (.inl ((N : Int) - 1)), zs] [] h (fun w h' => w = none ∧ ab_Sh sx_sk h' ∧ ab_Fr wr_pu h h' ∧ 0 ≤ mi_f h' 14029 ∧ wk_stk h' = wk_en g (-1) L ++ S) := by
  intro N
  induction N with
  | zero =>
    intro zs h hN os hS h124 hr t0 hst
    have e1 : ((0 : Nat) : Int) - 1 = -1 := rfl
    rw [e1]
    refine mt_chI hS of on oc ⟨by decide, by decide⟩ os ?_ ?_ ?_ ?_ ?_ ?_
    · intro c h3 r1 r2
      have e3 := me_nil r2
      subst e3
      exact ⟨rfl, r1, ab_Fr.refl, t0, hst⟩
    all_goals (intro c1; exfalso; omega)
  | succ N ih =>
    intro zs h hN os hS h124 hr t0 hst
    have e1 : ((N + 1 : Nat) : Int) - 1 = (N : Int) := by omega
    have e2 : (Int.toNat (N : Int)) = N := by omega
    rw [e1]
    have hlN : N < L.length := by omega
    have hxN : L[N]? = some L[N] := List.getElem?_eq_getElem hlN
    generalize hX : L[N] = x at hxN
    have ex := hx N x hxN
    have er := hr N x hxN
    have oN : mi_in (N : Int) := ⟨by omega, by omega⟩
    have ox : mi_in x := ⟨by omega, by omega⟩
    have hat := wk_en_at g L hxN
    have hlen0 := wk_en_len g L N (by omega)
    have hlen1 := wk_en_len g L (N + 1) (by omega)
    have hst0 : (wk_en g (wk_pv L 0) (L.drop 0)).length = (wk_en g (-1) L).length := rfl
    rw [hst0] at hlen0 hlen1
    have hsl := wk_stk_len t0
    rw [hst, List.length_append] at hsl
    have o01 : ∀ c : Prop, ∀ [Decidable c], mi_in (if c then (1 : Int) else 0) := fun c _ => by split <;> exact ⟨by decide, by decide⟩
    -- one unit, behind what came before
    have last : ∀ (zs2 : Int) (h1 : sm_H) (R : List wk_E), mi_in zs2 → ab_Sh sx_sk h1 → ab_Fr wr_pu h h1 → 0 ≤ mi_f h1 14029 → wk_stk h1 = R ++ S → (zs2 = 0 ∧ R = wk_en g (wk_pv L N) (L.drop N) ∨ zs2 = 1 ∧ (3, 0, 0) :: R = wk_en g (wk_pv L N) (L.drop N)) → me_E (d + 6) 223 240 [some (.inr (.inr 109)), some (.inl zf), some (.inl zn), some (.inl zc), some (.inl (N : Int)), some (.inl zs2)] [] h1 (fun w h' => w = none ∧ ab_Sh sx_sk h' ∧ ab_Fr wr_pu h h' ∧ 0 ≤ mi_f h' 14029 ∧ wk_stk h' = wk_en g (-1) L ++ S) := by
      intro zs2 h1 R o2 g1 g2 gt gst hcs
      have go : ∀ h2, ab_Sh sx_sk h2 → ab_Fr wr_pu h h2 → 0 ≤ mi_f h2 14029 → wk_stk h2 = wk_en g (wk_pv L N) (L.drop N) ++ S → me_E (d + 6) 223 155 [some (.inr (.inr 109)), some (.inl zf), some (.inl zn), some (.inl zc), some (.inl ((N : Int) - 1)), some (.inl zs2)] [] h2 (fun w h' => w = none ∧ ab_Sh sx_sk h' ∧ ab_Fr wr_pu h h' ∧ 0 ≤ mi_f h' 14029 ∧ wk_stk h' = wk_en g (-1) L ++ S) := fun h2 p1 p2 p3 p4 => (ih (some (.inl zs2)) h2 (by omega) (fun v hv => by cases hv; exact o2) p1 (fun i => (me_a (k := 124) p2 hS rfl rfl).trans (h124 i)) (fun k y hk => (me_a (k := 145) p2 hS rfl rfl).trans (hr k y hk)) p3 p4).imp (fun w h' hq => ⟨hq.1, hq.2.1, p2.trans hq.2.2.1, hq.2.2.2⟩)
      refine mt_chK g1 of on oc oN o2 ?_ ?_
      · intro c
        refine ⟨by omega, fun h2 r1 r2 => ?_⟩
        have e3 := me_nil r2
        subst e3
        rcases hcs with hcs | hcs
        · rw [hcs.2] at gst
          exact go h2 g1 g2 gt gst
        · omega
      · intro c h2 r1 r2
        have e3 := me_nil r2
        subst e3
        rcases hcs with hcs | hcs
        · omega
        · have hl1 := wk_stk_len gt
          rw [gst, List.length_append] at hl1
          have hl2 := congrArg List.length hcs.2
          rw [List.length_cons] at hl2
          refine ⟨_, me_push g1 ⟨by decide, by decide⟩ ⟨by decide, by decide⟩ ⟨by decide, by decide⟩ gt (by omega), ?_⟩
          intro w h3 hw hq
          obtain ⟨rfl, q1, q2, q3, q4⟩ := hq
          refine mt_chL q1 of on oc oN o2 ?_
          refine ⟨by omega, fun h4 s1 s2 => ?_⟩
          have e4 := me_nil s2
          subst e4
          refine go h4 q1 (g2.trans q2) (by omega) ?_
          rw [q4, gst, ← hcs.2]
          rfl
    have unitp : ∀ (zs2 : Int) (h1 : sm_H) (R : List wk_E) (s : Int), mi_in zs2 → ab_Sh sx_sk h1 → ab_Fr wr_pu h h1 → 0 ≤ mi_f h1 14029 → mi_f h1 14029 < 3000 → wk_stk h1 = R ++ S → (s = if 0 ≤ g 124 x.toNat then 1 else 0) → (zs2 = 0 ∧ (0, x, s) :: R = wk_en g (wk_pv L N) (L.drop N) ∨ zs2 = 1 ∧ (3, 0, 0) :: (0, x, s) :: R = wk_en g (wk_pv L N) (L.drop N)) → ∃ Q1, me_E (d + 5) 209 0 [some (.inr (.inr 109)), some (.inl (0 : Int)), some (.inl x), some (.inl s)] [] h1 Q1 ∧ ∀ w h2, (∀ x, w = some x → mi_ok x) → Q1 w h2 → me_E (d + 6) 223 240 [some (.inr (.inr 109)), some (.inl zf), some (.inl zn), some (.inl zc), some (.inl (N : Int)), some (.inl zs2)] (mi_back w []) h2 (fun w h' => w = none ∧ ab_Sh sx_sk h' ∧ ab_Fr wr_pu h h' ∧ 0 ≤ mi_f h' 14029 ∧ wk_stk h' = wk_en g (-1) L ++ S) := by
      intro zs2 h1 R s o2 g1 g2 gt gt2 gst hs hcs
      refine ⟨_, me_push g1 ⟨by decide, by decide⟩ ox (by rw [hs]; exact o01 _) gt gt2, ?_⟩
      intro w h3 hw hq
      obtain ⟨rfl, q1, q2, q3, q4⟩ := hq
      refine last zs2 h3 ((0, x, s) :: R) o2 q1 (g2.trans q2) (by omega) (by rw [q4, gst]; rfl) hcs
    have mx : mi_a h 124 x.toNat = g 124 x.toNat := h124 _
    have er' : mi_a h 145 (Int.toNat (N : Int)) = x := by rw [e2]; exact er
    have ey : 0 < N → mi_a h 145 (Int.toNat ((N : Int) - 1)) = wk_pv L N ∧ 0 ≤ wk_pv L N ∧ wk_pv L N < 60 := fun h0 => by
      obtain ⟨M, rfl⟩ : ∃ M, N = M + 1 := ⟨N - 1, by omega⟩
      have hlM : M < L.length := by omega
      have hxM : L[M]? = some L[M] := List.getElem?_eq_getElem hlM
      have ep : wk_pv L (M + 1) = L[M] := by
        show L.getD M 0 = _
        rw [List.getD_eq_getElem?_getD, hxM]
        rfl
      have e4 : (Int.toNat (((M + 1 : Nat) : Int) - 1)) = M := by omega
      have := hx M _ hxM
      rw [e4, ep]
      exact ⟨hr M _ hxM, this.1, this.2⟩
    refine mt_chI hS of on oc oN os ?_ ?_ ?_ ?_ ?_ ?_
    · intro c
      exfalso; omega
    · intro c1 c2 c3
      rw [er'] at c3 ⊢
      refine ⟨by omega, fun h1 g1 g2 => ?_⟩
      have e3 := me_nil g2
      subst e3
      have np : ¬ (0 ≤ wk_pv L N ∧ g 124 (wk_pv L N).toNat = x) := fun z => by
        have : N = 0 := by omega
        subst this
        exact absurd (show (0 : Int) ≤ -1 from z.1) (by decide)
      rw [if_neg np, if_neg (by omega)] at hat
      have hl0 := congrArg List.length hat
      rw [List.length_append, List.length_singleton] at hl0
      exact unitp 0 h1 _ 0 ⟨by decide, by decide⟩ hS ab_Fr.refl t0 (by omega) hst (by rw [if_neg (by omega)]) (Or.inl ⟨rfl, hat.symm⟩)
    · intro c1 c2 c3
      rw [er'] at c3 ⊢
      refine ⟨by omega, fun h1 g1 g2 => ?_⟩
      have e3 := me_nil g2
      subst e3
      have np : ¬ (0 ≤ wk_pv L N ∧ g 124 (wk_pv L N).toNat = x) := fun z => by
        have : N = 0 := by omega
        subst this
        exact absurd (show (0 : Int) ≤ -1 from z.1) (by decide)
      rw [if_neg np, if_pos (by omega)] at hat
      have hl0 := congrArg List.length hat
      rw [List.length_append, List.length_singleton] at hl0
      exact unitp 0 h1 _ 1 ⟨by decide, by decide⟩ hS ab_Fr.refl t0 (by omega) hst (by rw [if_pos (by omega)]) (Or.inl ⟨rfl, hat.symm⟩)
    · intro c1 c2 c3 c4
      obtain ⟨y1, y2, y3⟩ := ey (by omega)
      rw [er'] at c3 c4 ⊢
      rw [y1] at c3 ⊢
      refine ⟨by omega, fun h1 g1 g2 => ?_⟩
      have e3 := me_nil g2
      subst e3
      have np : ¬ (0 ≤ wk_pv L N ∧ g 124 (wk_pv L N).toNat = x) := fun z => c3 (by rw [h124]; exact z.2)
      rw [if_neg np, if_neg (by omega)] at hat
      have hl0 := congrArg List.length hat
      rw [List.length_append, List.length_singleton] at hl0
      exact unitp 0 h1 _ 0 ⟨by decide, by decide⟩ hS ab_Fr.refl t0 (by omega) hst (by rw [if_neg (by omega)]) (Or.inl ⟨rfl, hat.symm⟩)
    · intro c1 c2 c3 c4
      obtain ⟨y1, y2, y3⟩ := ey (by omega)
      rw [er'] at c3 c4 ⊢
      rw [y1] at c3 ⊢
      refine ⟨by omega, fun h1 g1 g2 => ?_⟩
      have e3 := me_nil g2
      subst e3
      have np : ¬ (0 ≤ wk_pv L N ∧ g 124 (wk_pv L N).toNat = x) := fun z => c3 (by rw [h124]; exact z.2)
      rw [if_neg np, if_pos (by omega)] at hat
      have hl0 := congrArg List.length hat
      rw [List.length_append, List.length_singleton] at hl0
      exact unitp 0 h1 _ 1 ⟨by decide, by decide⟩ hS ab_Fr.refl t0 (by omega) hst (by rw [if_pos (by omega)]) (Or.inl ⟨rfl, hat.symm⟩)
    · intro c1 c2 c3
      obtain ⟨y1, y2, y3⟩ := ey (by omega)
      rw [er'] at c3
      rw [y1] at c3 ⊢
      refine ⟨by omega, fun h1 g1 g2 => ?_⟩
      have e3 := me_nil g2
      subst e3
      have np : 0 ≤ wk_pv L N ∧ g 124 (wk_pv L N).toNat = x := ⟨y2, by rw [← h124]; exact c3⟩
      rw [if_pos np] at hat
      have hl0 := congrArg List.length hat
      rw [List.length_append] at hl0
      simp only [List.length_cons, List.length_nil] at hl0
      refine ⟨_, me_push hS ⟨by decide, by decide⟩ ⟨by decide, by decide⟩ ⟨by decide, by decide⟩ t0 (by omega), ?_⟩
      intro w h3 hw hq
      obtain ⟨rfl, q1, q2, q3, q4⟩ := hq
      have er3 : mi_a h3 145 (Int.toNat (N : Int)) = x := (me_a (k := 145) q2 hS rfl rfl).trans er'
      have m3 : mi_a h3 124 x.toNat = g 124 x.toNat := (me_a (k := 124) q2 hS rfl rfl).trans mx
      refine mt_chJ q1 of on oc oN ⟨by decide, by decide⟩ ?_ ?_
      · intro c4
        rw [er3] at c4 ⊢
        refine ⟨by omega, fun h4 s1 s2 => ?_⟩
        have e4 := me_nil s2
        subst e4
        rw [if_neg (by omega)] at hat
        exact unitp 1 h4 ((4, 0, 0) :: wk_en g (wk_pv L (N + 1)) (L.drop (N + 1))) 0 ⟨by decide, by decide⟩ q1 q2 (by omega) (by omega) (by rw [q4, hst]; rfl) (by rw [if_neg (by omega)]) (Or.inr ⟨rfl, hat.symm⟩)
      · intro c4
        rw [er3] at c4 ⊢
        refine ⟨by omega, fun h4 s1 s2 => ?_⟩
        have e4 := me_nil s2
        subst e4
        rw [if_pos (by omega)] at hat
        exact unitp 1 h4 ((4, 0, 0) :: wk_en g (wk_pv L (N + 1)) (L.drop (N + 1))) 1 ⟨by decide, by decide⟩ q1 q2 (by omega) (by omega) (by rw [q4, hst]; rfl) (by rw [if_pos (by omega)]) (Or.inr ⟨rfl, hat.symm⟩)
end CHO
/-! choose -/
def wr_ro : List (Nat × Nat) := [(14029, 14030), (18560, 18561), (21120, 21121), (21248, 21249), (21376, 21377)]
def ch_Q (μ zf : Int) (h : sm_H) (w : Option mi_V) (h' : sm_H) : Prop := w = none ∧ ab_Sh sx_sk h' ∧ ab_Fr wr_W1 h h' ∧ ((mi_f h' 14044 = 1 ∨ (μ = 0 ∧ 0 ≤ mi_f h' 14034)) ∨ (mi_f h' 14028 = μ ∧ mi_f h' 14044 = 0 ∧ mi_f h' 14034 < 0 ∧ wk_tok μ h' ∧ wk_n μ h ≤ wk_n μ h' ∧ wk_ag μ (wk_n μ h) h h' ∧ (μ = 2 → mi_f h' 14016 = mi_f h 14016) ∧ mi_f h' 14032 = mi_f h 14032 ∧ 0 ≤ mi_f h' 14029 ∧ ∃ j : Nat, (j : Int) < mi_a h 130 zf.toNat ∧
  ((1 < mi_a h 130 zf.toNat ∧ wk_stk h' = wk_it (mi_a h) 61 (mi_a h 126 (wk_alt (mi_a h) j (mi_a h 129 zf.toNat)).toNat) ++ (2, 0, 0) :: wk_stk h ∧ wk_n μ h' = wk_n μ h + 1 ∧ wk_K μ h' (wk_n μ h).toNat = 4 ∧ wk_V μ h' (wk_n μ h).toNat = (j : Int)) ∨
   (¬ 1 < mi_a h 130 zf.toNat ∧ j = 0 ∧ wk_stk h' = wk_it (mi_a h) 61 (mi_a h 126 (mi_a h 129 zf.toNat).toNat) ++ wk_stk h ∧ wk_n μ h' = wk_n μ h))))
section CHP
variable {d : Nat} {h : sm_H} {zf μ U : Int}
theorem ch146 {zn zc : Int} {zj : Option mi_V} (hS : ab_Sh sx_sk h) (of : mi_in zf) (on : mi_in zn) (oj : ∀ v, zj = some v → mi_ok v) (hC : wk_C (mi_a h) U) (hc0 : 0 ≤ zc) (hc1 : zc < 80) (hu : mi_a h 126 zc.toNat < 0 ∨ mi_a h 126 zc.toNat < U) (t0 : 0 ≤ mi_f h 14029) (hlen : ((wk_it (mi_a h) 61 (mi_a h 126 zc.toNat)).length : Int) + mi_f h 14029 ≤ 2999) : me_E (d + 6) 223 146 [some (.inr (.inr 109)), some (.inl zf), some (.inl zn), some (.inl zc), zj, none] [] h (fun w h' => w = none ∧ ab_Sh sx_sk h' ∧ ab_Fr wr_ro h h' ∧ 0 ≤ mi_f h' 14029 ∧ wk_stk h' = wk_it (mi_a h) 61 (mi_a h 126 zc.toNat) ++ wk_stk h) := by
  have oc : mi_in zc := ⟨by omega, by omega⟩
  have eit := wk_en_row hC 61 (mi_a h 126 zc.toNat) (-1) hu (fun z => absurd z (by decide))
  have hU := hC.1
  refine mt_chG hS of on oc oj ?_
  intro h1 g1 g2
  have e1 := me_nil g2
  subst e1
  refine ⟨_, me_line (d := d + 5) hS hC hc0 hc1 hu, ?_⟩
  intro w h2 hw hq
  obtain ⟨q1, q2, rfl, q4, q5⟩ := hq
  generalize hL : wk_row (mi_a h1) 61 (mi_a h1 126 zc.toNat) = L at *
  have ol : mi_in (L.length : Int) := ⟨by omega, by omega⟩
  refine mt_chH q1 of on oc ol oj ?_
  refine ⟨by omega, fun h3 r1 r2 => ?_⟩
  have e3 := me_nil r2
  subst e3
  have est : wk_stk h3 = wk_stk h1 := wk_stk_fr q2 hS rfl
  have e29 : mi_f h3 14029 = mi_f h1 14029 := me_f (c := 14029) q2 hS rfl rfl
  have hsl := wk_stk_len t0
  have hT : (wk_en (mi_a h1) (-1) L).length + (wk_stk h3).length ≤ 2999 := by rw [eit, est]; omega
  refine (ch155 (mi_a h1) L (wk_stk h3) of on oc hT (by omega) (fun k x hk => by have := q5 k x hk; omega) L.length none h3 (Nat.le_refl _) (fun v hv => by cases hv) q1 (fun i => me_a (k := 124) q2 hS rfl rfl) (fun k x hk => (q5 k x hk).1) (by omega) (by rw [List.drop_length]; rfl)).imp (fun w h' hq => ?_)
  obtain ⟨p1, p2, p3, p4, p5⟩ := hq
  refine ⟨p1, p2, (q2.wide (fun c hc => ab_swr_ok (by decide) hc)).trans (p3.wide (fun c hc => ab_swr_ok (by decide) hc)), p4, ?_⟩
  rw [p5, eit, est]
theorem ch127 {Q : Option mi_V → sm_H → Prop} (hS : ab_Sh sx_sk h) (of : mi_in zf) (hf0 : 0 ≤ zf) (hf1 : zf < 80) (hf : wk_fa (mi_a h) zf) {j : Nat} (hj : (j : Int) < mi_a h 130 zf.toNat) (kk : ∀ zj : Int, mi_in zj → me_E (d + 6) 223 146 [some (.inr (.inr 109)), some (.inl zf), some (.inl (j : Int)), some (.inl (wk_alt (mi_a h) j (mi_a h 129 zf.toNat))), some (.inl zj), none] [] h Q) : ∀ (N k : Nat), j - k < N → k ≤ j → me_E (d + 6) 223 127 [some (.inr (.inr 109)), some (.inl zf), some (.inl (j : Int)), some (.inl (wk_alt (mi_a h) k (mi_a h 129 zf.toNat))), some (.inl (k : Int)), none] [] h Q := by
  have b130 := me_ab (k := 130) (i := zf.toNat) hS rfl (by decide) (by omega)
  intro N
  induction N with
  | zero => intro k h1 h2; omega
  | succ N ih =>
    intro k h1 h2
    have hk := hf.2.2 k (by omega)
    have es := wk_alt_succ (mi_a h) k (mi_a h 129 zf.toNat)
    have oj : mi_in (j : Int) := ⟨by omega, by omega⟩
    have ok : mi_in (k : Int) := ⟨by omega, by omega⟩
    refine mt_chF hS of oj ⟨by omega, by omega⟩ ok ?_ ?_
    · intro c h3 r1 r2
      have e3 := me_nil r2
      subst e3
      have e : k = j := by omega
      subst e
      exact kk _ ok
    · intro c
      refine ⟨by omega, fun h3 r1 r2 => ?_⟩
      have e3 := me_nil r2
      subst e3
      have := ih (k + 1) (by omega) (by omega)
      rw [es] at this
      exact this
theorem me_choose (hi : wk_in μ h) (hf0 : 0 ≤ zf) (hf1 : zf < 80) (hf : wk_fa (mi_a h) zf) (hC : wk_C (mi_a h) U) (hfi : ∀ j : Nat, (j : Int) < mi_a h 130 zf.toNat → mi_a h 126 (wk_alt (mi_a h) j (mi_a h 129 zf.toNat)).toNat < 0 ∨ mi_a h 126 (wk_alt (mi_a h) j (mi_a h 129 zf.toNat)).toNat < U) (hlen : ∀ j : Nat, (j : Int) < mi_a h 130 zf.toNat → ((wk_it (mi_a h) 61 (mi_a h 126 (wk_alt (mi_a h) j (mi_a h 129 zf.toNat)).toNat)).length : Int) + mi_f h 14029 + 1 ≤ 2999) (h2 : μ = 2 → 1 < mi_a h 130 zf.toNat → wk_K 2 h (wk_n 2 h).toNat = 4 ∧ 0 ≤ wk_V 2 h (wk_n 2 h).toNat ∧ wk_V 2 h (wk_n 2 h).toNat < mi_a h 130 zf.toNat ∧ wk_n 2 h < 100) : me_E (d + 6) 223 0 [some (.inr (.inr 109)), some (.inl zf), none, none, none, none] [] h (ch_Q μ zf h) := by
  have hi' := hi
  obtain ⟨i1, i2, i3, i4, i5, i6, i7, i8, i9, i10, i11⟩ := hi'
  have of : mi_in zf := ⟨by omega, by omega⟩
  have b130 := me_ab (k := 130) (i := zf.toNat) i1 rfl (by decide) (by omega)
  have en2 : wk_n 2 h = mi_f h 14033 := by unfold wk_n; rw [if_pos rfl]
  have eV2 : ∀ k, wk_V 2 h k = (mx_b h 162 k).toInt := fun k => by unfold wk_V; rw [if_pos rfl]
  -- behind the choice
  have go80 : ∀ (zz : Int) (h1 : sm_H), 1 < mi_a h 130 zf.toNat → mi_in zz → zz < mi_a h 130 zf.toNat → (zz < 0 → μ = 0) → (μ = 2 → zz = wk_V 2 h (wk_n 2 h).toNat) → ab_Sh sx_sk h1 → ab_Fr [(14047, 14048)] h h1 → me_E (d + 6) 223 80 [some (.inr (.inr 109)), some (.inl zf), some (.inl (0 : Int)), some (.inl (mi_a h 129 zf.toNat)), none, none] [.inl zz] h1 (ch_Q μ zf h) := by
    intro zz h1 hc1 oz hz1 hz2 hz3 g1 g2
    have f33 : mi_f h1 14033 = mi_f h 14033 := me_f (c := 14033) g2 i1 rfl rfl
    refine mt_chD g1 of ⟨by decide, by decide⟩ (mi_inT _) oz ?_ ?_
    · intro c h2' r1 r2
      have e2 := me_nil r2
      subst e2
      refine mt_chD2 g1 of oz (mi_inT _) ?_
      intro h3 s1 s2
      have e3 := me_nil s2
      subst e3
      refine ⟨_, me_comes (d := d + 5) μ g1 ⟨by decide, by decide⟩ ((me_f (c := 14028) g2 i1 rfl rfl).trans i2) (fun e => ?_), ?_⟩
      · have := (h2 e hc1).2.2.2
        rw [en2] at this
        rw [f33]
        omega
      · intro w h4 hw hq
        obtain ⟨q1, q2, q3⟩ := hq
        obtain ⟨⟨z, rfl⟩, n29, n32, n34, n28, nst, ngc, nF, ntok, nmk, nn⟩ := un_node hi oz g1 g2 q1 q2 (fun e => ⟨hz3 e, (h2 e hc1).1⟩) q3
        obtain ⟨j, rfl⟩ : ∃ j : Nat, zz = (j : Int) := ⟨zz.toNat, by omega⟩
        have hlj := hlen j hz1
        refine mt_chE q1 of oz (mi_inT _) (hw _ rfl) ?_
        intro b1
        refine ⟨by clear h2 hlen hfi; omega, fun h5 t1 t2 t3 a5 a6 a7 t4 => ?_⟩
        have est := wk_push1 (by omega) t2 a5 a6 a7
        rw [nst] at est
        have hg : wk_gc (mi_a h) (mi_a h5) := ngc.trans (wk_gc_fr t4 q1 rfl)
        have hne : wk_ne μ h4 h5 := wk_ne_fr t4 q1 rfl
        have hC5 : wk_C (mi_a h5) U := by
          refine ⟨hC.1, fun u u0 u1 => ?_⟩
          rw [hg 124 (by decide), hg 125 (by decide), hg 124 (by decide)]
          exact hC.2 u u0 u1
        have hf5 : wk_fa (mi_a h5) zf := by
          unfold wk_fa
          rw [hg 130 (by decide), hg 129 (by decide), wk_alt_g hg]
          refine ⟨hf.1, hf.2.1, fun j hj => ?_⟩
          rw [wk_alt_g hg]
          exact hf.2.2 j hj
        have ea : wk_alt (mi_a h5) j (mi_a h5 129 zf.toNat) = wk_alt (mi_a h) j (mi_a h 129 zf.toNat) := by rw [wk_alt_g hg, hg 129 (by decide)]
        have haj := hf.2.2 j hz1
        have hfj := hfi j hz1
        generalize hA : wk_alt (mi_a h) j (mi_a h 129 zf.toNat) = A at ea haj hfj hlj
        have := ch127 (d := d) (Q := ch_Q μ zf h) t1 of hf0 hf1 hf5 (j := j) (by rw [hg 130 (by decide)]; exact hz1) (fun zj ozj => by
          rw [ea]
          refine (ch146 (U := U) t1 of oz (fun v hv => by cases hv; exact ozj) hC5 haj.1 haj.2 (by rw [hg 126 (by decide)]; exact hfj) (by clear h2 hlen hfi; omega) (by rw [wk_it_g hg, hg 126 (by decide)]; clear h2 hlen hfi; omega)).imp (fun w h' hq => ?_)
          obtain ⟨p1, p2, p3, p4, p5⟩ := hq
          have F5 : ab_Fr wr_W1 h h5 := nF.trans (t4.wide (fun c hc => ab_swr_ok (by decide) hc))
          refine ⟨p1, p2, F5.trans (p3.wide (fun c hc => ab_swr_ok (by decide) hc)), ?_⟩
          have e44 : mi_f h' 14044 = mi_f h4 14044 := (me_f (c := 14044) p3 t1 rfl rfl).trans (me_f (c := 14044) t4 q1 rfl rfl)
          rcases nn with ⟨-, nn⟩ | ⟨m1, m2, m3, m4, m5, m6⟩
          · exact Or.inl (Or.inl (by rw [e44]; exact nn))
          · have hne2 : wk_ne μ h5 h' := wk_ne_fr p3 t1 rfl
            have en5 : wk_n μ h5 = wk_n μ h4 := wk_ne_n hne
            have en' : wk_n μ h' = wk_n μ h5 := wk_ne_n hne2
            have hlt : ((wk_n μ h).toNat : Int) < wk_n μ h4 := by clear h2 hlen hfi; omega
            have hlt5 : ((wk_n μ h).toNat : Int) < wk_n μ h5 := by clear h2 hlen hfi; omega
            obtain ⟨y1, y2⟩ := hne.2.2 _ hlt
            obtain ⟨y3, y4⟩ := hne2.2.2 _ hlt5
            refine Or.inr ⟨by rw [me_f (c := 14028) p3 t1 rfl rfl, me_f (c := 14028) t4 q1 rfl rfl, n28]; exact i2, by rw [e44]; exact m1, by rw [me_f (c := 14034) p3 t1 rfl rfl, me_f (c := 14034) t4 q1 rfl rfl, n34]; exact i5, fun e => ?_, by clear h2 hlen hfi; omega, (m3.trans hne.2.2 (by clear h2 hlen hfi; omega)).trans hne2.2.2 (by clear h2 hlen hfi; omega), fun e => hne2.2.1.trans (hne.2.1.trans (nmk e)), by rw [me_f (c := 14032) p3 t1 rfl rfl, me_f (c := 14032) t4 q1 rfl rfl, n32], p4, j, hz1, Or.inl ⟨hc1, ?_, by clear h2 hlen hfi; omega, y3.trans (y1.trans m4), y4.trans (y2.trans m5)⟩⟩
            · rw [hne2.1, hne.1, me_f (c := 14011) p3 t1 rfl rfl, me_f (c := 14011) t4 q1 rfl rfl, me_a (k := 152) p3 t1 rfl rfl, me_a (k := 152) t4 q1 rfl rfl]
              exact ntok e
            · rw [p5, wk_it_g hg, hg 126 (by decide), est, hA]) (j + 1) 0 (by clear h2 hlen hfi; omega) (Nat.zero_le _)
        rw [hg 129 (by decide)] at this
        exact this
    · intro b c
      have eμ := hz2 c
      have hh := i6 eμ
      have bt := me_fb (c := 14011) i1 rfl
      have bf := me_ab (k := 153) (i := (mi_f h1 14033).toNat) g1 rfl (by decide) (by rw [f33]; clear h2 hlen hfi; omega)
      refine ⟨by rw [f33]; clear h2 hlen hfi; omega, fun h2' r1 r2 r3 => ?_⟩
      exact ⟨rfl, r1, (g2.wide (fun c hc => ab_swr_ok (by decide) hc)).trans (r3.wide (fun c hc => ab_swr_ok (by decide) hc)), Or.inl (Or.inr (by rw [r2]; exact ⟨eμ, bf.1⟩))⟩
  have Fnil : ∀ {h1 : sm_H}, ab_Fr [] h h1 → ab_Fr [(14047, 14048)] h h1 := fun g => g.wide (fun c hc => by cases hc)
  refine mt_chA i1 of ?_ ?_ ?_ ?_ ?_
  · intro c1
    have h1c : (1 : Int) ≤ mi_a h 130 zf.toNat := hf.1
    have h0l : ((0 : Nat) : Int) < mi_a h 130 zf.toNat := by clear h2 hlen hfi; omega
    have hl0 := hlen 0 h0l
    have ha0 := hf.2.2 0 h0l
    have hf0' := hfi 0 h0l
    refine ⟨by clear h2 hlen hfi; omega, fun h1 g1 g2 => ?_⟩
    have e1 := me_nil g2
    subst e1
    refine (ch146 (U := U) g1 of ⟨by decide, by decide⟩ (fun v hv => by cases hv) hC ha0.1 ha0.2 hf0' i7 (by
      clear h2 hlen hfi
      omega)).imp (fun w h' hq => ?_)
    obtain ⟨p1, p2, p3, p4, p5⟩ := hq
    have hne2 : wk_ne μ h1 h' := wk_ne_fr p3 g1 rfl
    have en' : wk_n μ h' = wk_n μ h1 := wk_ne_n hne2
    refine ⟨p1, p2, p3.wide (fun c hc => ab_swr_ok (by decide) hc), Or.inr ⟨(me_f (c := 14028) p3 g1 rfl rfl).trans i2, (me_f (c := 14044) p3 g1 rfl rfl).trans i4, by rw [me_f (c := 14034) p3 g1 rfl rfl]; exact i5, fun e => ?_, by clear h2 hlen hfi; omega, hne2.2.2, fun _ => hne2.2.1, me_f (c := 14032) p3 g1 rfl rfl, p4, 0, h0l, Or.inr ⟨by clear h2 hlen hfi; omega, rfl, p5, en'⟩⟩⟩
    rw [hne2.1, me_f (c := 14011) p3 g1 rfl rfl, me_a (k := 152) p3 g1 rfl rfl]
    exact i6 e
  · intro b1 b2 c1 c2 c3 c4
    refine ⟨by clear h2 hlen hfi; omega, fun h1 g1 g2 => ?_⟩
    have e1 := me_nil g2
    subst e1
    refine ⟨_, me_draw (d := d + 5) g1 (by clear h2 hlen hfi; omega) (by clear h2 hlen hfi; omega), ?_⟩
    intro w h3 hw hq
    obtain ⟨q1, q2, z, rfl, z1, z2⟩ := hq
    exact go80 z h3 c1 (hw _ rfl) z2 (fun e => by clear h2 hlen hfi; omega) (fun e => by clear h2 hlen hfi; omega) q1 q2
  · intro b1 b2 c1 c2 c3 c4
    refine ⟨by clear h2 hlen hfi; omega, fun h1 g1 g2 => ?_⟩
    have e1 := me_nil g2
    subst e1
    refine ⟨_, me_lowest (d := d + 5) g1 hf0 hf1 hf, ?_⟩
    intro w h3 hw hq
    obtain ⟨rfl, z, rfl, z1, z2⟩ := hq
    refine mt_chC g1 of ⟨by decide, by decide⟩ (mi_inT _) (hw _ rfl) ?_
    intro h4 g3 g4
    exact go80 z h4 c1 (hw _ rfl) z2 (fun e => by clear h2 hlen hfi; omega) (fun e => by clear h2 hlen hfi; omega) g3 (Fnil g4)
  · intro b1 b2 c1 c2 c3
    have eμ : μ = 2 := by clear h2 hlen hfi; omega
    obtain ⟨k1, k2, k3, k4⟩ := h2 eμ c1
    rw [eμ] at i11
    rw [en2] at k4 i11
    rw [eV2, en2] at k2 k3
    have ev : (mx_b h 162 (mi_f h 14033).toNat).toInt32.toInt = (mx_b h 162 (mi_f h 14033).toNat).toInt := by
      rw [Int64.toInt_toInt32]
      exact Int.bmod_eq_of_le (by clear h2 hlen hfi; omega) (by clear h2 hlen hfi; omega)
    refine ⟨by clear h2 hlen hfi; omega, fun h1 g1 g2 => ?_⟩
    rw [ev]
    exact go80 _ h1 c1 ⟨by clear h2 hlen hfi; omega, by clear h2 hlen hfi; omega⟩ k3 (fun e => by clear h2 hlen hfi; omega) (fun e => by rw [eV2, en2]) g1 (Fnil g2)
  · intro b1 c1 c2
    have eμ : μ = 0 := by clear h2 hlen hfi; omega
    have hh := i6 eμ
    have bt := me_fb (c := 14011) i1 rfl
    refine ⟨by clear h2 hlen hfi; omega, fun h1 g1 g2 => ?_⟩
    have e1 := me_nil g2
    subst e1
    refine ⟨_, me_directed (d := d + 4) g1 (by clear h2 hlen hfi; omega) (by clear h2 hlen hfi; omega) hf0 hf1 hf, ?_⟩
    intro w h3 hw hq
    obtain ⟨rfl, z, rfl, z1, z2⟩ := hq
    refine mt_chB g1 of ⟨by decide, by decide⟩ (mi_inT _) (hw _ rfl) ?_
    intro h4 g3 g4
    exact go80 z h4 c1 (hw _ rfl) z2 (fun e => eμ) (fun e => by clear h2 hlen hfi; omega) g3 (Fnil g4)
end CHP
/-! segments: swap -/
set_option maxRecDepth 20000 in
theorem mp_swA_0 (h : sm_H) (d : Nat) : mi_path [(226, (5, 0, sb_226))] sx_sk h 23 [8, 8] (d, 226, 0, [some (.inr (.inr 109)), none, none, none, none], [], [], []) = some ((d, 226, 34, [some (.inr (.inr 109)), some (.inl (mi_a h 169 (Int.toNat ((mi_f h 14030) - ((1 : Int)))))), some (.inl (mi_a h 168 (Int.toNat ((mi_f h 14030) - ((1 : Int)))))), some (.inl ((mi_a h 169 (Int.toNat ((mi_f h 14030) - ((1 : Int))))) - (mi_a h 168 (Int.toNat ((mi_f h 14030) - ((1 : Int))))))), some (.inl ((0 : Int)))], [], [.inl (14030, (mi_f h 14030) - ((1 : Int)))], []), [-2147483648 ≤ (mi_f h 14030) - ((1 : Int)) ∧ (mi_f h 14030) - ((1 : Int)) ≤ 2147483647, 0 ≤ ((mi_f h 14030) - ((1 : Int))) ∧ ((mi_f h 14030) - ((1 : Int))) < 64, 0 ≤ ((mi_f h 14030) - ((1 : Int))) ∧ ((mi_f h 14030) - ((1 : Int))) < 64, -2147483648 ≤ (mi_a h 169 (Int.toNat ((mi_f h 14030) - ((1 : Int))))) - (mi_a h 168 (Int.toNat ((mi_f h 14030) - ((1 : Int))))) ∧ (mi_a h 169 (Int.toNat ((mi_f h 14030) - ((1 : Int))))) - (mi_a h 168 (Int.toNat ((mi_f h 14030) - ((1 : Int))))) ≤ 2147483647]) := rfl
theorem mi_tab_swA_0 : ∀ e ∈ ([(226, (5, 0, sb_226))] : mi_T), sc_P e.1 = some e.2 := mi_tb mi_P226 (mi_tb_e)
set_option maxRecDepth 20000 in
theorem ms_swA_0 {h : sm_H} {d : Nat} {Q : Option mi_V → sm_H → Prop} (hS : ab_Sh sx_sk h)  (ho : (-2147483648 ≤ (mi_f h 14030) - ((1 : Int)) ∧ (mi_f h 14030) - ((1 : Int)) ≤ 2147483647) ∧ (0 ≤ ((mi_f h 14030) - ((1 : Int))) ∧ ((mi_f h 14030) - ((1 : Int))) < 64) ∧ (0 ≤ ((mi_f h 14030) - ((1 : Int))) ∧ ((mi_f h 14030) - ((1 : Int))) < 64) ∧ (-2147483648 ≤ (mi_a h 169 (Int.toNat ((mi_f h 14030) - ((1 : Int))))) - (mi_a h 168 (Int.toNat ((mi_f h 14030) - ((1 : Int))))) ∧ (mi_a h 169 (Int.toNat ((mi_f h 14030) - ((1 : Int))))) - (mi_a h 168 (Int.toNat ((mi_f h 14030) - ((1 : Int))))) ≤ 2147483647)) (kon : ∀ h1, me_W [.inl (14030, (mi_f h 14030) - ((1 : Int)))] h h1 → me_E (d) 226 34 [some (.inr (.inr 109)), some (.inl (mi_a h 169 (Int.toNat ((mi_f h 14030) - ((1 : Int)))))), some (.inl (mi_a h 168 (Int.toNat ((mi_f h 14030) - ((1 : Int)))))), some (.inl ((mi_a h 169 (Int.toNat ((mi_f h 14030) - ((1 : Int))))) - (mi_a h 168 (Int.toNat ((mi_f h 14030) - ((1 : Int))))))), some (.inl ((0 : Int)))] [] h1 Q) : me_E (d) 226 0 [some (.inr (.inr 109)), none, none, none, none] [] h Q := me_seg (mp_swA_0 h d ) (mi_tab_swA_0) hS (mi_okL_c (trivial) (mi_okL_n (mi_okL_n (mi_okL_n (mi_okL_n (mi_okL_e)))))) (mi_okS_e) (mi_al (ho.1) (mi_al (ho.2.1) (mi_al (ho.2.2.1) (mi_al (ho.2.2.2) (mi_al_e))))) (fun h1 W _ hst => kon h1 W)
set_option maxRecDepth 20000 in
theorem mt_swA {h : sm_H} {d : Nat} {Q : Option mi_V → sm_H → Prop} (hS : ab_Sh sx_sk h)  (k0 : ((-2147483648) ≤ mi_f h 14030 ∧ mi_f h 14030 ≤ 2147483647) → ((-2147483648 ≤ (mi_f h 14030) - ((1 : Int)) ∧ (mi_f h 14030) - ((1 : Int)) ≤ 2147483647) ∧ (0 ≤ ((mi_f h 14030) - ((1 : Int))) ∧ ((mi_f h 14030) - ((1 : Int))) < 64) ∧ (-2147483648 ≤ (mi_a h 169 (Int.toNat ((mi_f h 14030) - ((1 : Int))))) - (mi_a h 168 (Int.toNat ((mi_f h 14030) - ((1 : Int))))) ∧ (mi_a h 169 (Int.toNat ((mi_f h 14030) - ((1 : Int))))) - (mi_a h 168 (Int.toNat ((mi_f h 14030) - ((1 : Int))))) ≤ 2147483647)) ∧ (∀ h1, ab_Sh sx_sk h1 → mi_f h1 14030 = (mi_f h 14030) - ((1 : Int)) → ab_Fr [(14030, 14031)] h h1 → me_E (d) 226 34 [some (.inr (.inr 109)), some (.inl (mi_a h 169 (Int.toNat ((mi_f h 14030) - ((1 : Int)))))), some (.inl (mi_a h 168 (Int.toNat ((mi_f h 14030) - ((1 : Int)))))), some (.inl ((mi_a h 169 (Int.toNat ((mi_f h 14030) - ((1 : Int))))) - (mi_a h 168 (Int.toNat ((mi_f h 14030) - ((1 : Int))))))), some (.inl ((0 : Int)))] [] h1 Q)) : me_E (d) 226 0 [some (.inr (.inr 109)), none, none, none, none] [] h Q := ms_swA_0 hS ⟨(k0 (me_fb hS rfl)).1.1, (k0 (me_fb hS rfl)).1.2.1, (k0 (me_fb hS rfl)).1.2.1, (k0 (me_fb hS rfl)).1.2.2⟩ (fun h1 W => (k0 (me_fb hS rfl)).2 h1 W.1 (W.2.1 14030) (W.2.2.2.2.2 _ rfl))
set_option maxRecDepth 20000 in
theorem mp_swB_0 (h : sm_H) (d : Nat) (zb za zn zk : Int) : mi_path [(226, (5, 0, sb_226))] sx_sk h 5 [1] (d, 226, 34, [some (.inr (.inr 109)), some (.inl (zb)), some (.inl (za)), some (.inl (zn)), some (.inl (zk))], [], [], []) = some ((d, 226, 65, [some (.inr (.inr 109)), some (.inl (zb)), some (.inl (za)), some (.inl (zn)), some (.inl (zb))], [], [], []), [zn ≤ zk]) := rfl
theorem mi_tab_swB_0 : ∀ e ∈ ([(226, (5, 0, sb_226))] : mi_T), sc_P e.1 = some e.2 := mi_tb mi_P226 (mi_tb_e)
set_option maxRecDepth 20000 in
theorem ms_swB_0 {h : sm_H} {d : Nat} {Q : Option mi_V → sm_H → Prop} {zb za zn zk : Int} (hS : ab_Sh sx_sk h) (ok_zb : mi_in zb) (ok_za : mi_in za) (ok_zn : mi_in zn) (ok_zk : mi_in zk) (ho : (zn ≤ zk)) (kon : ∀ h1, me_W [] h h1 → me_E (d) 226 65 [some (.inr (.inr 109)), some (.inl (zb)), some (.inl (za)), some (.inl (zn)), some (.inl (zb))] [] h1 Q) : me_E (d) 226 34 [some (.inr (.inr 109)), some (.inl (zb)), some (.inl (za)), some (.inl (zn)), some (.inl (zk))] [] h Q := me_seg (mp_swB_0 h d zb za zn zk) (mi_tab_swB_0) hS (mi_okL_c (trivial) (mi_okL_c (ok_zb) (mi_okL_c (ok_za) (mi_okL_c (ok_zn) (mi_okL_c (ok_zk) (mi_okL_e)))))) (mi_okS_e) (mi_al (ho) (mi_al_e)) (fun h1 W _ hst => kon h1 W)
set_option maxRecDepth 20000 in
theorem mp_swB_1 (h : sm_H) (d : Nat) (zb za zn zk : Int) : mi_path [(226, (5, 0, sb_226))] sx_sk h 15 [0, 8] (d, 226, 34, [some (.inr (.inr 109)), some (.inl (zb)), some (.inl (za)), some (.inl (zn)), some (.inl (zk))], [], [], []) = some ((d, 226, 34, [some (.inr (.inr 109)), some (.inl (zb)), some (.inl (za)), some (.inl (zn)), some (.inl (zk + 1))], [], [.inr (.inr (.inl (145, Int.toNat zk, mi_a h 160 (Int.toNat (za + zk)))))], []), [zk < zn, -2147483648 ≤ za + zk ∧ za + zk ≤ 2147483647, 0 ≤ (za + zk) ∧ (za + zk) < 100, 0 ≤ zk ∧ zk < 100, 0 ≤ (mi_a h 160 (Int.toNat (za + zk))) ∧ (mi_a h 160 (Int.toNat (za + zk))) ≤ 99, -2147483648 ≤ zk + 1 ∧ zk + 1 ≤ 2147483647]) := rfl
theorem mi_tab_swB_1 : ∀ e ∈ ([(226, (5, 0, sb_226))] : mi_T), sc_P e.1 = some e.2 := mi_tb mi_P226 (mi_tb_e)
set_option maxRecDepth 20000 in
theorem ms_swB_1 {h : sm_H} {d : Nat} {Q : Option mi_V → sm_H → Prop} {zb za zn zk : Int} (hS : ab_Sh sx_sk h) (ok_zb : mi_in zb) (ok_za : mi_in za) (ok_zn : mi_in zn) (ok_zk : mi_in zk) (ho : (zk < zn) ∧ (-2147483648 ≤ za + zk ∧ za + zk ≤ 2147483647) ∧ (0 ≤ (za + zk) ∧ (za + zk) < 100) ∧ (0 ≤ zk ∧ zk < 100) ∧ (0 ≤ (mi_a h 160 (Int.toNat (za + zk))) ∧ (mi_a h 160 (Int.toNat (za + zk))) ≤ 99) ∧ (-2147483648 ≤ zk + 1 ∧ zk + 1 ≤ 2147483647)) (kon : ∀ h1, me_W [.inr (.inr (.inl (145, Int.toNat zk, mi_a h 160 (Int.toNat (za + zk)))))] h h1 → me_E (d) 226 34 [some (.inr (.inr 109)), some (.inl (zb)), some (.inl (za)), some (.inl (zn)), some (.inl (zk + 1))] [] h1 Q) : me_E (d) 226 34 [some (.inr (.inr 109)), some (.inl (zb)), some (.inl (za)), some (.inl (zn)), some (.inl (zk))] [] h Q := me_seg (mp_swB_1 h d zb za zn zk) (mi_tab_swB_1) hS (mi_okL_c (trivial) (mi_okL_c (ok_zb) (mi_okL_c (ok_za) (mi_okL_c (ok_zn) (mi_okL_c (ok_zk) (mi_okL_e)))))) (mi_okS_e) (mi_al (ho.1) (mi_al (ho.2.1) (mi_al (ho.2.2.1) (mi_al (ho.2.2.2.1) (mi_al (ho.2.2.2.2.1) (mi_al (ho.2.2.2.2.2) (mi_al_e))))))) (fun h1 W _ hst => kon h1 W)
set_option maxRecDepth 20000 in
theorem mt_swB {h : sm_H} {d : Nat} {Q : Option mi_V → sm_H → Prop} {zb za zn zk : Int} (hS : ab_Sh sx_sk h) (ok_zb : mi_in zb) (ok_za : mi_in za) (ok_zn : mi_in zn) (ok_zk : mi_in zk) (k0 : (zn ≤ zk) → (∀ h1, ab_Sh sx_sk h1 → ab_Fr [] h h1 → me_E (d) 226 65 [some (.inr (.inr 109)), some (.inl (zb)), some (.inl (za)), some (.inl (zn)), some (.inl (zb))] [] h1 Q)) (k1 : (zk < zn) → ((-2147483648 ≤ za + zk ∧ za + zk ≤ 2147483647) ∧ (0 ≤ (za + zk) ∧ (za + zk) < 100) ∧ (0 ≤ zk ∧ zk < 100) ∧ (0 ≤ (mi_a h 160 (Int.toNat (za + zk))) ∧ (mi_a h 160 (Int.toNat (za + zk))) ≤ 99) ∧ (-2147483648 ≤ zk + 1 ∧ zk + 1 ≤ 2147483647)) ∧ (∀ h1, ab_Sh sx_sk h1 → (∀ i, mi_a h1 145 i = if i = Int.toNat zk then mi_a h 160 (Int.toNat (za + zk)) else (mi_a h 145 i)) → ab_Fr [(18560, 18561)] h h1 → me_E (d) 226 34 [some (.inr (.inr 109)), some (.inl (zb)), some (.inl (za)), some (.inl (zn)), some (.inl (zk + 1))] [] h1 Q)) : me_E (d) 226 34 [some (.inr (.inr 109)), some (.inl (zb)), some (.inl (za)), some (.inl (zn)), some (.inl (zk))] [] h Q := Or.elim (mi_em .ge (zk) (zn)) (fun c0 => ms_swB_0 hS ok_zb ok_za ok_zn ok_zk (c0) (fun h1 W => (k0 c0) h1 W.1 (W.2.2.2.2.2 _ rfl))) (fun c0 => ms_swB_1 hS ok_zb ok_za ok_zn ok_zk ⟨c0, (k1 c0).1.1, (k1 c0).1.2.1, (k1 c0).1.2.2.1, (k1 c0).1.2.2.2.1, (k1 c0).1.2.2.2.2⟩ (fun h1 W => (k1 c0).2 h1 W.1 (fun i => W.2.2.1 145 i) (W.2.2.2.2.2 _ rfl)))
set_option maxRecDepth 20000 in
theorem mp_swC_0 (h : sm_H) (d : Nat) (zb za zn zk : Int) : mi_path [(226, (5, 0, sb_226))] sx_sk h 6 [1] (d, 226, 65, [some (.inr (.inr 109)), some (.inl (zb)), some (.inl (za)), some (.inl (zn)), some (.inl (zk))], [], [], []) = some ((d, 226, 99, [some (.inr (.inr 109)), some (.inl (zb)), some (.inl (za)), some (.inl (zn)), some (.inl ((0 : Int)))], [], [], []), [(mi_f h 14016) ≤ zk]) := rfl
theorem mi_tab_swC_0 : ∀ e ∈ ([(226, (5, 0, sb_226))] : mi_T), sc_P e.1 = some e.2 := mi_tb mi_P226 (mi_tb_e)
set_option maxRecDepth 20000 in
theorem ms_swC_0 {h : sm_H} {d : Nat} {Q : Option mi_V → sm_H → Prop} {zb za zn zk : Int} (hS : ab_Sh sx_sk h) (ok_zb : mi_in zb) (ok_za : mi_in za) (ok_zn : mi_in zn) (ok_zk : mi_in zk) (ho : ((mi_f h 14016) ≤ zk)) (kon : ∀ h1, me_W [] h h1 → me_E (d) 226 99 [some (.inr (.inr 109)), some (.inl (zb)), some (.inl (za)), some (.inl (zn)), some (.inl ((0 : Int)))] [] h1 Q) : me_E (d) 226 65 [some (.inr (.inr 109)), some (.inl (zb)), some (.inl (za)), some (.inl (zn)), some (.inl (zk))] [] h Q := me_seg (mp_swC_0 h d zb za zn zk) (mi_tab_swC_0) hS (mi_okL_c (trivial) (mi_okL_c (ok_zb) (mi_okL_c (ok_za) (mi_okL_c (ok_zn) (mi_okL_c (ok_zk) (mi_okL_e)))))) (mi_okS_e) (mi_al (ho) (mi_al_e)) (fun h1 W _ hst => kon h1 W)
set_option maxRecDepth 20000 in
theorem mp_swC_1 (h : sm_H) (d : Nat) (zb za zn zk : Int) : mi_path [(226, (5, 0, sb_226))] sx_sk h 16 [0, 8] (d, 226, 65, [some (.inr (.inr 109)), some (.inl (zb)), some (.inl (za)), some (.inl (zn)), some (.inl (zk))], [], [], []) = some ((d, 226, 65, [some (.inr (.inr 109)), some (.inl (zb)), some (.inl (za)), some (.inl (zn)), some (.inl (zk + 1))], [], [.inr (.inr (.inl (160, Int.toNat (zk - zn), mi_a h 160 (Int.toNat zk))))], []), [zk < (mi_f h 14016), -2147483648 ≤ zk - zn ∧ zk - zn ≤ 2147483647, 0 ≤ zk ∧ zk < 100, 0 ≤ (zk - zn) ∧ (zk - zn) < 100, 0 ≤ (mi_a h 160 (Int.toNat zk)) ∧ (mi_a h 160 (Int.toNat zk)) ≤ 99, -2147483648 ≤ zk + 1 ∧ zk + 1 ≤ 2147483647]) := rfl
theorem mi_tab_swC_1 : ∀ e ∈ ([(226, (5, 0, sb_226))] : mi_T), sc_P e.1 = some e.2 := mi_tb mi_P226 (mi_tb_e)
set_option maxRecDepth 20000 in
theorem ms_swC_1 {h : sm_H} {d : Nat} {Q : Option mi_V → sm_H → Prop} {zb za zn zk : Int} (hS : ab_Sh sx_sk h) (ok_zb : mi_in zb) (ok_za : mi_in za) (ok_zn : mi_in zn) (ok_zk : mi_in zk) (ho : (zk < (mi_f h 14016)) ∧ (-2147483648 ≤ zk - zn ∧ zk - zn ≤ 2147483647) ∧ (0 ≤ zk ∧ zk < 100) ∧ (0 ≤ (zk - zn) ∧ (zk - zn) < 100) ∧ (0 ≤ (mi_a h 160 (Int.toNat zk)) ∧ (mi_a h 160 (Int.toNat zk)) ≤ 99) ∧ (-2147483648 ≤ zk + 1 ∧ zk + 1 ≤ 2147483647)) (kon : ∀ h1, me_W [.inr (.inr (.inl (160, Int.toNat (zk - zn), mi_a h 160 (Int.toNat zk))))] h h1 → me_E (d) 226 65 [some (.inr (.inr 109)), some (.inl (zb)), some (.inl (za)), some (.inl (zn)), some (.inl (zk + 1))] [] h1 Q) : me_E (d) 226 65 [some (.inr (.inr 109)), some (.inl (zb)), some (.inl (za)), some (.inl (zn)), some (.inl (zk))] [] h Q := me_seg (mp_swC_1 h d zb za zn zk) (mi_tab_swC_1) hS (mi_okL_c (trivial) (mi_okL_c (ok_zb) (mi_okL_c (ok_za) (mi_okL_c (ok_zn) (mi_okL_c (ok_zk) (mi_okL_e)))))) (mi_okS_e) (mi_al (ho.1) (mi_al (ho.2.1) (mi_al (ho.2.2.1) (mi_al (ho.2.2.2.1) (mi_al (ho.2.2.2.2.1) (mi_al (ho.2.2.2.2.2) (mi_al_e))))))) (fun h1 W _ hst => kon h1 W)
set_option maxRecDepth 20000 in
theorem mt_swC {h : sm_H} {d : Nat} {Q : Option mi_V → sm_H → Prop} {zb za zn zk : Int} (hS : ab_Sh sx_sk h) (ok_zb : mi_in zb) (ok_za : mi_in za) (ok_zn : mi_in zn) (ok_zk : mi_in zk) (k0 : (0 ≤ mi_f h 14016 ∧ mi_f h 14016 ≤ 100) → ((mi_f h 14016) ≤ zk) → (∀ h1, ab_Sh sx_sk h1 → ab_Fr [] h h1 → me_E (d) 226 99 [some (.inr (.inr 109)), some (.inl (zb)), some (.inl (za)), some (.inl (zn)), some (.inl ((0 : Int)))] [] h1 Q)) (k1 : (0 ≤ mi_f h 14016 ∧ mi_f h 14016 ≤ 100) → (zk < (mi_f h 14016)) → ((-2147483648 ≤ zk - zn ∧ zk - zn ≤ 2147483647) ∧ (0 ≤ zk ∧ zk < 100) ∧ (0 ≤ (zk - zn) ∧ (zk - zn) < 100) ∧ (0 ≤ (mi_a h 160 (Int.toNat zk)) ∧ (mi_a h 160 (Int.toNat zk)) ≤ 99) ∧ (-2147483648 ≤ zk + 1 ∧ zk + 1 ≤ 2147483647)) ∧ (∀ h1, ab_Sh sx_sk h1 → (∀ i, mi_a h1 160 i = if i = Int.toNat (zk - zn) then mi_a h 160 (Int.toNat zk) else (mi_a h 160 i)) → ab_Fr [(20480, 20481)] h h1 → me_E (d) 226 65 [some (.inr (.inr 109)), some (.inl (zb)), some (.inl (za)), some (.inl (zn)), some (.inl (zk + 1))] [] h1 Q)) : me_E (d) 226 65 [some (.inr (.inr 109)), some (.inl (zb)), some (.inl (za)), some (.inl (zn)), some (.inl (zk))] [] h Q := Or.elim (mi_em .ge (zk) ((mi_f h 14016))) (fun c0 => ms_swC_0 hS ok_zb ok_za ok_zn ok_zk (c0) (fun h1 W => (k0 (me_fb hS rfl) c0) h1 W.1 (W.2.2.2.2.2 _ rfl))) (fun c0 => ms_swC_1 hS ok_zb ok_za ok_zn ok_zk ⟨c0, (k1 (me_fb hS rfl) c0).1.1, (k1 (me_fb hS rfl) c0).1.2.1, (k1 (me_fb hS rfl) c0).1.2.2.1, (k1 (me_fb hS rfl) c0).1.2.2.2.1, (k1 (me_fb hS rfl) c0).1.2.2.2.2⟩ (fun h1 W => (k1 (me_fb hS rfl) c0).2 h1 W.1 (fun i => W.2.2.1 160 i) (W.2.2.2.2.2 _ rfl)))
set_option maxRecDepth 20000 in
theorem mp_swD_0 (h : sm_H) (d : Nat) (zb za zn zk : Int) : mi_path [(226, (5, 0, sb_226))] sx_sk h 3 [1] (d, 226, 99, [some (.inr (.inr 109)), some (.inl (zb)), some (.inl (za)), some (.inl (zn)), some (.inl (zk))], [], [], []) = some ((d, 226, 132, [some (.inr (.inr 109)), some (.inl (zb)), some (.inl (za)), some (.inl (zn)), some (.inl (zk))], [], [], []), [zn ≤ zk]) := rfl
theorem mi_tab_swD_0 : ∀ e ∈ ([(226, (5, 0, sb_226))] : mi_T), sc_P e.1 = some e.2 := mi_tb mi_P226 (mi_tb_e)
set_option maxRecDepth 20000 in
theorem ms_swD_0 {h : sm_H} {d : Nat} {Q : Option mi_V → sm_H → Prop} {zb za zn zk : Int} (hS : ab_Sh sx_sk h) (ok_zb : mi_in zb) (ok_za : mi_in za) (ok_zn : mi_in zn) (ok_zk : mi_in zk) (ho : (zn ≤ zk)) (kon : ∀ h1, me_W [] h h1 → Q none h1) : me_E (d) 226 99 [some (.inr (.inr 109)), some (.inl (zb)), some (.inl (za)), some (.inl (zn)), some (.inl (zk))] [] h Q := me_seg (mp_swD_0 h d zb za zn zk) (mi_tab_swD_0) hS (mi_okL_c (trivial) (mi_okL_c (ok_zb) (mi_okL_c (ok_za) (mi_okL_c (ok_zn) (mi_okL_c (ok_zk) (mi_okL_e)))))) (mi_okS_e) (mi_al (ho) (mi_al_e)) (fun h1 W _ hst => me_ret (M := (5, 0, sb_226)) rfl rfl rfl hst (mi_al_e) (kon h1 W))
set_option maxRecDepth 20000 in
theorem mp_swD_1 (h : sm_H) (d : Nat) (zb za zn zk : Int) : mi_path [(226, (5, 0, sb_226))] sx_sk h 18 [0, 8, 8] (d, 226, 99, [some (.inr (.inr 109)), some (.inl (zb)), some (.inl (za)), some (.inl (zn)), some (.inl (zk))], [], [], []) = some ((d, 226, 99, [some (.inr (.inr 109)), some (.inl (zb)), some (.inl (za)), some (.inl (zn)), some (.inl (zk + 1))], [], [.inr (.inr (.inl (160, Int.toNat (((mi_f h 14016) - zn) + zk), mi_a h 145 (Int.toNat zk))))], []), [zk < zn, -2147483648 ≤ (mi_f h 14016) - zn ∧ (mi_f h 14016) - zn ≤ 2147483647, -2147483648 ≤ ((mi_f h 14016) - zn) + zk ∧ ((mi_f h 14016) - zn) + zk ≤ 2147483647, 0 ≤ zk ∧ zk < 100, 0 ≤ (((mi_f h 14016) - zn) + zk) ∧ (((mi_f h 14016) - zn) + zk) < 100, 0 ≤ (mi_a h 145 (Int.toNat zk)) ∧ (mi_a h 145 (Int.toNat zk)) ≤ 99, -2147483648 ≤ zk + 1 ∧ zk + 1 ≤ 2147483647]) := rfl
theorem mi_tab_swD_1 : ∀ e ∈ ([(226, (5, 0, sb_226))] : mi_T), sc_P e.1 = some e.2 := mi_tb mi_P226 (mi_tb_e)
set_option maxRecDepth 20000 in
theorem ms_swD_1 {h : sm_H} {d : Nat} {Q : Option mi_V → sm_H → Prop} {zb za zn zk : Int} (hS : ab_Sh sx_sk h) (ok_zb : mi_in zb) (ok_za : mi_in za) (ok_zn : mi_in zn) (ok_zk : mi_in zk) (ho : (zk < zn) ∧ (-2147483648 ≤ (mi_f h 14016) - zn ∧ (mi_f h 14016) - zn ≤ 2147483647) ∧ (-2147483648 ≤ ((mi_f h 14016) - zn) + zk ∧ ((mi_f h 14016) - zn) + zk ≤ 2147483647) ∧ (0 ≤ zk ∧ zk < 100) ∧ (0 ≤ (((mi_f h 14016) - zn) + zk) ∧ (((mi_f h 14016) - zn) + zk) < 100) ∧ (0 ≤ (mi_a h 145 (Int.toNat zk)) ∧ (mi_a h 145 (Int.toNat zk)) ≤ 99) ∧ (-2147483648 ≤ zk + 1 ∧ zk + 1 ≤ 2147483647)) (kon : ∀ h1, me_W [.inr (.inr (.inl (160, Int.toNat (((mi_f h 14016) - zn) + zk), mi_a h 145 (Int.toNat zk))))] h h1 → me_E (d) 226 99 [some (.inr (.inr 109)), some (.inl (zb)), some (.inl (za)), some (.inl (zn)), some (.inl (zk + 1))] [] h1 Q) : me_E (d) 226 99 [some (.inr (.inr 109)), some (.inl (zb)), some (.inl (za)), some (.inl (zn)), some (.inl (zk))] [] h Q := me_seg (mp_swD_1 h d zb za zn zk) (mi_tab_swD_1) hS (mi_okL_c (trivial) (mi_okL_c (ok_zb) (mi_okL_c (ok_za) (mi_okL_c (ok_zn) (mi_okL_c (ok_zk) (mi_okL_e)))))) (mi_okS_e) (mi_al (ho.1) (mi_al (ho.2.1) (mi_al (ho.2.2.1) (mi_al (ho.2.2.2.1) (mi_al (ho.2.2.2.2.1) (mi_al (ho.2.2.2.2.2.1) (mi_al (ho.2.2.2.2.2.2) (mi_al_e)))))))) (fun h1 W _ hst => kon h1 W)
set_option maxRecDepth 20000 in
theorem mt_swD {h : sm_H} {d : Nat} {Q : Option mi_V → sm_H → Prop} {zb za zn zk : Int} (hS : ab_Sh sx_sk h) (ok_zb : mi_in zb) (ok_za : mi_in za) (ok_zn : mi_in zn) (ok_zk : mi_in zk) (k0 : (zn ≤ zk) → (∀ h1, ab_Sh sx_sk h1 → ab_Fr [] h h1 → Q none h1)) (k1 : (0 ≤ mi_f h 14016 ∧ mi_f h 14016 ≤ 100) → (zk < zn) → ((-2147483648 ≤ (mi_f h 14016) - zn ∧ (mi_f h 14016) - zn ≤ 2147483647) ∧ (-2147483648 ≤ ((mi_f h 14016) - zn) + zk ∧ ((mi_f h 14016) - zn) + zk ≤ 2147483647) ∧ (0 ≤ zk ∧ zk < 100) ∧ (0 ≤ (((mi_f h 14016) - zn) + zk) ∧ (((mi_f h 14016) - zn) + zk) < 100) ∧ (0 ≤ (mi_a h 145 (Int.toNat zk)) ∧ (mi_a h 145 (Int.toNat zk)) ≤ 99) ∧ (-2147483648 ≤ zk + 1 ∧ zk + 1 ≤ 2147483647)) ∧ (∀ h1, ab_Sh sx_sk h1 → (∀ i, mi_a h1 160 i = if i = Int.toNat (((mi_f h 14016) - zn) + zk) then mi_a h 145 (Int.toNat zk) else (mi_a h 160 i)) → ab_Fr [(20480, 20481)] h h1 → me_E (d) 226 99 [some (.inr (.inr 109)), some (.inl (zb)), some (.inl (za)), some (.inl (zn)), some (.inl (zk + 1))] [] h1 Q)) : me_E (d) 226 99 [some (.inr (.inr 109)), some (.inl (zb)), some (.inl (za)), some (.inl (zn)), some (.inl (zk))] [] h Q := Or.elim (mi_em .ge (zk) (zn)) (fun c0 => ms_swD_0 hS ok_zb ok_za ok_zn ok_zk (c0) (fun h1 W => (k0 c0) h1 W.1 (W.2.2.2.2.2 _ rfl))) (fun c0 => ms_swD_1 hS ok_zb ok_za ok_zn ok_zk ⟨c0, (k1 (me_fb hS rfl) c0).1.1, (k1 (me_fb hS rfl) c0).1.2.1, (k1 (me_fb hS rfl) c0).1.2.2.1, (k1 (me_fb hS rfl) c0).1.2.2.2.1, (k1 (me_fb hS rfl) c0).1.2.2.2.2.1, (k1 (me_fb hS rfl) c0).1.2.2.2.2.2⟩ (fun h1 W => (k1 (me_fb hS rfl) c0).2 h1 W.1 (fun i => W.2.2.1 160 i) (W.2.2.2.2.2 _ rfl)))
/-! swap -/
section SWA
variable {d : Nat} {zb za zn : Int}
def wr_sw : List (Nat × Nat) := [(14030, 14031), (18560, 18561), (20480, 20481)]
theorem sw99 (ob : mi_in zb) (oa : mi_in za) (hn0 : 0 ≤ zn) (hn1 : zn ≤ 100) : ∀ (N : Nat) (zk : Int) (h : sm_H), zn - zk < N → 0 ≤ zk → zk ≤ zn → zn ≤ mi_f h 14016 → ab_Sh sx_sk h → me_E d 226 99 [some (.inr (.inr 109)), some (.inl zb), some (.inl za), some (.inl zn), some (.inl zk)] [] h (fun w h' => w = none ∧ ab_Sh sx_sk h' ∧ ab_Fr wr_sw h h' ∧ mi_f h' 14030 = mi_f h 14030) := by
  have on : mi_in zn := ⟨by omega, by omega⟩
  intro N
  induction N with
  | zero => intro zk h h1 h2 h3; omega
  | succ N ih =>
    intro zk h h1 h2 h3 h4 hS
    have ok : mi_in zk := ⟨by omega, by omega⟩
    refine mt_swD hS ob oa on ok ?_ ?_
    · intro c h3 r1 r2
      have e3 := me_nil r2
      subst e3
      exact ⟨rfl, r1, ab_Fr.refl, rfl⟩
    · intro b c
      have br := me_ab (k := 145) (i := zk.toNat) hS rfl (by decide) (by omega)
      refine ⟨by omega, fun h3 r1 r2 r3 => ?_⟩
      have e16 : mi_f h3 14016 = mi_f h 14016 := me_f (c := 14016) r3 hS rfl rfl
      refine (ih _ h3 (by omega) (by omega) (by omega) (by omega) r1).imp (fun w h' hq => ⟨hq.1, hq.2.1, (r3.wide (fun c hc => ab_swr_ok (by decide) hc)).trans hq.2.2.1, hq.2.2.2.trans (me_f (c := 14030) r3 hS rfl rfl)⟩)
theorem sw65 (ob : mi_in zb) (oa : mi_in za) (hn0 : 0 ≤ zn) (hb0 : zn ≤ zb) : ∀ (N : Nat) (zk : Int) (h : sm_H), 100 - zk < N → zb ≤ zk → zk ≤ 100 → zb ≤ mi_f h 14016 → ab_Sh sx_sk h → me_E d 226 65 [some (.inr (.inr 109)), some (.inl zb), some (.inl za), some (.inl zn), some (.inl zk)] [] h (fun w h' => w = none ∧ ab_Sh sx_sk h' ∧ ab_Fr wr_sw h h' ∧ mi_f h' 14030 = mi_f h 14030) := by
  intro N
  induction N with
  | zero => intro zk h h1 h2 h3; omega
  | succ N ih =>
    intro zk h h1 h2 h3 h4 hS
    have ok : mi_in zk := ⟨by omega, by omega⟩
    have on : mi_in zn := ⟨by omega, by omega⟩
    have b16 := me_fb (c := 14016) hS rfl
    refine mt_swC hS ob oa on ok ?_ ?_
    · intro b c h3 r1 r2
      have e3 := me_nil r2
      subst e3
      exact sw99 ob oa hn0 (by omega) 200 0 h3 (by omega) (by decide) hn0 (by omega) r1
    · intro b c
      have br := me_ab (k := 160) (i := zk.toNat) hS rfl (by decide) (by omega)
      refine ⟨by omega, fun h3 r1 r2 r3 => ?_⟩
      have e16 : mi_f h3 14016 = mi_f h 14016 := me_f (c := 14016) r3 hS rfl rfl
      refine (ih _ h3 (by omega) (by omega) (by omega) (by omega) r1).imp (fun w h' hq => ⟨hq.1, hq.2.1, (r3.wide (fun c hc => ab_swr_ok (by decide) hc)).trans hq.2.2.1, hq.2.2.2.trans (me_f (c := 14030) r3 hS rfl rfl)⟩)
theorem sw34 (ha0 : 0 ≤ za) (hab : zn = zb - za) (hn0 : 0 ≤ zn) : ∀ (N : Nat) (zk : Int) (h : sm_H), zn - zk < N → 0 ≤ zk → zk ≤ zn → zb ≤ mi_f h 14016 → ab_Sh sx_sk h → me_E d 226 34 [some (.inr (.inr 109)), some (.inl zb), some (.inl za), some (.inl zn), some (.inl zk)] [] h (fun w h' => w = none ∧ ab_Sh sx_sk h' ∧ ab_Fr wr_sw h h' ∧ mi_f h' 14030 = mi_f h 14030) := by
  intro N
  induction N with
  | zero => intro zk h h1 h2 h3; omega
  | succ N ih =>
    intro zk h h1 h2 h3 h4 hS
    have b16 := me_fb (c := 14016) hS rfl
    have ok : mi_in zk := ⟨by omega, by omega⟩
    have on : mi_in zn := ⟨by omega, by omega⟩
    have ob : mi_in zb := ⟨by omega, by omega⟩
    have oa : mi_in za := ⟨by omega, by omega⟩
    refine mt_swB hS ob oa on ok ?_ ?_
    · intro c h3 r1 r2
      have e3 := me_nil r2
      subst e3
      exact sw65 ob oa hn0 (by omega) 200 zb h3 (by omega) (by omega) (by omega) h4 r1
    · intro c
      have br := me_ab (k := 160) (i := (za + zk).toNat) hS rfl (by decide) (by omega)
      refine ⟨by omega, fun h3 r1 r2 r3 => ?_⟩
      have e16 : mi_f h3 14016 = mi_f h 14016 := me_f (c := 14016) r3 hS rfl rfl
      refine (ih _ h3 (by omega) (by omega) (by omega) (by omega) r1).imp (fun w h' hq => ⟨hq.1, hq.2.1, (r3.wide (fun c hc => ab_swr_ok (by decide) hc)).trans hq.2.2.1, hq.2.2.2.trans (me_f (c := 14030) r3 hS rfl rfl)⟩)
theorem me_swap {h : sm_H} (hS : ab_Sh sx_sk h) (p0 : 1 ≤ mi_f h 14030) (p1 : mi_f h 14030 ≤ 64) (a0 : 0 ≤ mi_a h 168 (mi_f h 14030 - 1).toNat) (a1 : mi_a h 168 (mi_f h 14030 - 1).toNat ≤ mi_a h 169 (mi_f h 14030 - 1).toNat) (a2 : mi_a h 169 (mi_f h 14030 - 1).toNat ≤ mi_f h 14016) : me_E d 226 0 [some (.inr (.inr 109)), none, none, none, none] [] h (fun w h' => w = none ∧ ab_Sh sx_sk h' ∧ ab_Fr wr_sw h h' ∧ mi_f h' 14030 = mi_f h 14030 - 1) := by
  have b16 := me_fb (c := 14016) hS rfl
  refine mt_swA hS ?_
  intro b
  refine ⟨by omega, fun h1 g1 g2 g3 => ?_⟩
  have e16 : mi_f h1 14016 = mi_f h 14016 := me_f (c := 14016) g3 hS rfl rfl
  refine (sw34 a0 rfl (by omega) 200 0 h1 (by omega) (by decide) (by omega) (by omega) g1).imp (fun w h' hq => ⟨hq.1, hq.2.1, (g3.wide (fun c hc => ab_swr_ok (by decide) hc)).trans hq.2.2.1, hq.2.2.2.trans g2⟩)
end SWA
