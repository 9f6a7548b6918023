/-! segments of the class: Sets, follows -/
set_option maxRecDepth 20000 in
theorem mp_sfA_0 (h : sm_H) (d : Nat) (zf : Int) (zx : Int64) : mj_path [(78, (9, 2, sb_78))] sx_sk h 8 [] (d + 4, 78, 0, [some (.inr (.inr 78)), some (.inl (zf)), some (.inr (.inl (zx))), none, none, none, none, none, none], [], [], []) = some ((d + 4, 78, 12, [some (.inr (.inr 78)), some (.inl (zf)), some (.inr (.inl (zx))), none, some (.inr (.inl (Int64.ofNat 0))), none, some (.inl ((1 : Int))), some (.inl (zf)), some (.inl ((0 : Int)))], [], [], []), []) := rfl
theorem mi_tab_sfA_0 : ∀ e ∈ ([(78, (9, 2, sb_78))] : mi_T), sc_P e.1 = some e.2 := mi_tb mi_P78 (mi_tb_e)
set_option maxRecDepth 20000 in
theorem ms_sfA_0 {h : sm_H} {d : Nat} {Q : Option mi_V → sm_H → Prop} {zf : Int} {zx : Int64} (hS : ab_Sh sx_sk h) (ok_zf : mi_in zf) (kon : ∀ h1, me_W [] h h1 → me_E (d + 4) 78 12 [some (.inr (.inr 78)), some (.inl (zf)), some (.inr (.inl (zx))), none, some (.inr (.inl (Int64.ofNat 0))), none, some (.inl ((1 : Int))), some (.inl (zf)), some (.inl ((0 : Int)))] [] h1 Q) : me_E (d + 4) 78 0 [some (.inr (.inr 78)), some (.inl (zf)), some (.inr (.inl (zx))), none, none, none, none, none, none] [] h Q := mf_seg (mp_sfA_0 h d zf zx) (mi_tab_sfA_0) hS (mi_okL_c (trivial) (mi_okL_c (ok_zf) (mi_okL_c (trivial) (mi_okL_n (mi_okL_n (mi_okL_n (mi_okL_n (mi_okL_n (mi_okL_n (mi_okL_e)))))))))) (mi_okS_e) (mi_al_e) (fun h1 W _ hst => kon h1 W)
set_option maxRecDepth 20000 in
theorem mt_sfA {h : sm_H} {d : Nat} {Q : Option mi_V → sm_H → Prop} {zf : Int} {zx : Int64} (hS : ab_Sh sx_sk h) (ok_zf : mi_in zf) (k0 : (∀ h1, ab_Sh sx_sk h1 → ab_Fr [] h h1 → me_E (d + 4) 78 12 [some (.inr (.inr 78)), some (.inl (zf)), some (.inr (.inl (zx))), none, some (.inr (.inl (Int64.ofNat 0))), none, some (.inl ((1 : Int))), some (.inl (zf)), some (.inl ((0 : Int)))] [] h1 Q)) : me_E (d + 4) 78 0 [some (.inr (.inr 78)), some (.inl (zf)), some (.inr (.inl (zx))), none, none, none, none, none, none] [] h Q := ms_sfA_0 hS ok_zf (fun h1 W => (k0) h1 W.1 (W.2.2.2.2.2 _ rfl))
set_option maxRecDepth 20000 in
theorem mp_sfB_0 (h : sm_H) (d : Nat) (zf ze zp zn : Int) (zx zs : Int64) : mj_path [(78, (9, 2, sb_78)), (16, (3, 0, sb_16)), (49, (2, 1, sb_49)), (66, (4, 0, sb_66)), (72, (2, 2, sb_72))] sx_sk h 2 [1] (d + 4, 78, 12, [some (.inr (.inr 78)), some (.inl (zf)), some (.inr (.inl (zx))), none, some (.inr (.inl (zs))), none, some (.inl (ze)), some (.inl (zp)), some (.inl (zn))], [], [], []) = some ((d + 4, 78, 72, [some (.inr (.inr 78)), some (.inl (zf)), some (.inr (.inl (zx))), none, some (.inr (.inl (zs))), none, some (.inl (ze)), some (.inl (zp)), some (.inl (zn))], [], [], []), [ze = ((0 : Int))]) := rfl
theorem mi_tab_sfB_0 : ∀ e ∈ ([(78, (9, 2, sb_78)), (16, (3, 0, sb_16)), (49, (2, 1, sb_49)), (66, (4, 0, sb_66)), (72, (2, 2, sb_72))] : mi_T), sc_P e.1 = some e.2 := mi_tb mi_P78 (mi_tb mi_P16 (mi_tb mi_P49 (mi_tb mi_P66 (mi_tb mi_P72 (mi_tb_e)))))
set_option maxRecDepth 20000 in
theorem ms_sfB_0 {h : sm_H} {d : Nat} {Q : Option mi_V → sm_H → Prop} {zf ze zp zn : Int} {zx zs : Int64} (hS : ab_Sh sx_sk h) (ok_zf : mi_in zf) (ok_ze : mi_in ze) (ok_zp : mi_in zp) (ok_zn : mi_in zn) (ho : (ze = ((0 : Int)))) (kon : ∀ h1, me_W [] h h1 → me_E (d + 4) 78 72 [some (.inr (.inr 78)), some (.inl (zf)), some (.inr (.inl (zx))), none, some (.inr (.inl (zs))), none, some (.inl (ze)), some (.inl (zp)), some (.inl (zn))] [] h1 Q) : me_E (d + 4) 78 12 [some (.inr (.inr 78)), some (.inl (zf)), some (.inr (.inl (zx))), none, some (.inr (.inl (zs))), none, some (.inl (ze)), some (.inl (zp)), some (.inl (zn))] [] h Q := mf_seg (mp_sfB_0 h d zf ze zp zn zx zs) (mi_tab_sfB_0) hS (mi_okL_c (trivial) (mi_okL_c (ok_zf) (mi_okL_c (trivial) (mi_okL_n (mi_okL_c (trivial) (mi_okL_n (mi_okL_c (ok_ze) (mi_okL_c (ok_zp) (mi_okL_c (ok_zn) (mi_okL_e)))))))))) (mi_okS_e) (mi_al (ho) (mi_al_e)) (fun h1 W _ hst => kon h1 W)
set_option maxRecDepth 20000 in
theorem mp_sfB_1 (h : sm_H) (d : Nat) (zf ze zp zn : Int) (zx zs : Int64) : mj_path [(78, (9, 2, sb_78)), (16, (3, 0, sb_16)), (49, (2, 1, sb_49)), (66, (4, 0, sb_66)), (72, (2, 2, sb_72))] sx_sk h 5 [0, 1] (d + 4, 78, 12, [some (.inr (.inr 78)), some (.inl (zf)), some (.inr (.inl (zx))), none, some (.inr (.inl (zs))), none, some (.inl (ze)), some (.inl (zp)), some (.inl (zn))], [], [], []) = some ((d + 4, 78, 72, [some (.inr (.inr 78)), some (.inl (zf)), some (.inr (.inl (zx))), none, some (.inr (.inl (zs))), none, some (.inl (ze)), some (.inl (zp)), some (.inl (zn))], [], [], []), [ze ≠ ((0 : Int)), zp = ((-1 : Int))]) := rfl
theorem mi_tab_sfB_1 : ∀ e ∈ ([(78, (9, 2, sb_78)), (16, (3, 0, sb_16)), (49, (2, 1, sb_49)), (66, (4, 0, sb_66)), (72, (2, 2, sb_72))] : mi_T), sc_P e.1 = some e.2 := mi_tb mi_P78 (mi_tb mi_P16 (mi_tb mi_P49 (mi_tb mi_P66 (mi_tb mi_P72 (mi_tb_e)))))
set_option maxRecDepth 20000 in
theorem ms_sfB_1 {h : sm_H} {d : Nat} {Q : Option mi_V → sm_H → Prop} {zf ze zp zn : Int} {zx zs : Int64} (hS : ab_Sh sx_sk h) (ok_zf : mi_in zf) (ok_ze : mi_in ze) (ok_zp : mi_in zp) (ok_zn : mi_in zn) (ho : (ze ≠ ((0 : Int))) ∧ (zp = ((-1 : Int)))) (kon : ∀ h1, me_W [] h h1 → me_E (d + 4) 78 72 [some (.inr (.inr 78)), some (.inl (zf)), some (.inr (.inl (zx))), none, some (.inr (.inl (zs))), none, some (.inl (ze)), some (.inl (zp)), some (.inl (zn))] [] h1 Q) : me_E (d + 4) 78 12 [some (.inr (.inr 78)), some (.inl (zf)), some (.inr (.inl (zx))), none, some (.inr (.inl (zs))), none, some (.inl (ze)), some (.inl (zp)), some (.inl (zn))] [] h Q := mf_seg (mp_sfB_1 h d zf ze zp zn zx zs) (mi_tab_sfB_1) hS (mi_okL_c (trivial) (mi_okL_c (ok_zf) (mi_okL_c (trivial) (mi_okL_n (mi_okL_c (trivial) (mi_okL_n (mi_okL_c (ok_ze) (mi_okL_c (ok_zp) (mi_okL_c (ok_zn) (mi_okL_e)))))))))) (mi_okS_e) (mi_al (ho.1) (mi_al (ho.2) (mi_al_e))) (fun h1 W _ hst => kon h1 W)
set_option maxRecDepth 20000 in
theorem mp_sfB_2 (h : sm_H) (d : Nat) (zf ze zp zn : Int) (zx zs : Int64) : mj_path [(78, (9, 2, sb_78)), (16, (3, 0, sb_16)), (49, (2, 1, sb_49)), (66, (4, 0, sb_66)), (72, (2, 2, sb_72))] sx_sk h 8 [0, 0, 1] (d + 4, 78, 12, [some (.inr (.inr 78)), some (.inl (zf)), some (.inr (.inl (zx))), none, some (.inr (.inl (zs))), none, some (.inl (ze)), some (.inl (zp)), some (.inl (zn))], [], [], []) = some ((d + 4, 78, 72, [some (.inr (.inr 78)), some (.inl (zf)), some (.inr (.inl (zx))), none, some (.inr (.inl (zs))), none, some (.inl (ze)), some (.inl (zp)), some (.inl (zn))], [], [], []), [ze ≠ ((0 : Int)), zp ≠ ((-1 : Int)), ((60 : Int)) ≤ zn]) := rfl
theorem mi_tab_sfB_2 : ∀ e ∈ ([(78, (9, 2, sb_78)), (16, (3, 0, sb_16)), (49, (2, 1, sb_49)), (66, (4, 0, sb_66)), (72, (2, 2, sb_72))] : mi_T), sc_P e.1 = some e.2 := mi_tb mi_P78 (mi_tb mi_P16 (mi_tb mi_P49 (mi_tb mi_P66 (mi_tb mi_P72 (mi_tb_e)))))
set_option maxRecDepth 20000 in
theorem ms_sfB_2 {h : sm_H} {d : Nat} {Q : Option mi_V → sm_H → Prop} {zf ze zp zn : Int} {zx zs : Int64} (hS : ab_Sh sx_sk h) (ok_zf : mi_in zf) (ok_ze : mi_in ze) (ok_zp : mi_in zp) (ok_zn : mi_in zn) (ho : (ze ≠ ((0 : Int))) ∧ (zp ≠ ((-1 : Int))) ∧ (((60 : Int)) ≤ zn)) (kon : ∀ h1, me_W [] h h1 → me_E (d + 4) 78 72 [some (.inr (.inr 78)), some (.inl (zf)), some (.inr (.inl (zx))), none, some (.inr (.inl (zs))), none, some (.inl (ze)), some (.inl (zp)), some (.inl (zn))] [] h1 Q) : me_E (d + 4) 78 12 [some (.inr (.inr 78)), some (.inl (zf)), some (.inr (.inl (zx))), none, some (.inr (.inl (zs))), none, some (.inl (ze)), some (.inl (zp)), some (.inl (zn))] [] h Q := mf_seg (mp_sfB_2 h d zf ze zp zn zx zs) (mi_tab_sfB_2) hS (mi_okL_c (trivial) (mi_okL_c (ok_zf) (mi_okL_c (trivial) (mi_okL_n (mi_okL_c (trivial) (mi_okL_n (mi_okL_c (ok_ze) (mi_okL_c (ok_zp) (mi_okL_c (ok_zn) (mi_okL_e)))))))))) (mi_okS_e) (mi_al (ho.1) (mi_al (ho.2.1) (mi_al (ho.2.2) (mi_al_e)))) (fun h1 W _ hst => kon h1 W)
set_option maxRecDepth 20000 in
theorem mp_sfB_3 (h : sm_H) (d : Nat) (zf ze zp zn : Int) (zx zs : Int64) : mj_path [(78, (9, 2, sb_78)), (16, (3, 0, sb_16)), (49, (2, 1, sb_49)), (66, (4, 0, sb_66)), (72, (2, 2, sb_72))] sx_sk h 21 [0, 0, 0, 1] (d + 4, 78, 12, [some (.inr (.inr 78)), some (.inl (zf)), some (.inr (.inl (zx))), none, some (.inr (.inl (zs))), none, some (.inl (ze)), some (.inl (zp)), some (.inl (zn))], [], [], []) = some ((d + 4, 78, 47, [some (.inr (.inr 78)), some (.inl (zf)), some (.inr (.inl (zx))), none, some (.inr (.inl (zs ||| (Int64.ofNat 0)))), none, some (.inl (ze)), some (.inl (zp)), some (.inl (zn))], [.inl (zp), .inr (.inr 78)], [], []), [ze ≠ ((0 : Int)), zp ≠ ((-1 : Int)), zn < ((60 : Int)), zp < ((0 : Int))]) := rfl
theorem mi_tab_sfB_3 : ∀ e ∈ ([(78, (9, 2, sb_78)), (16, (3, 0, sb_16)), (49, (2, 1, sb_49)), (66, (4, 0, sb_66)), (72, (2, 2, sb_72))] : mi_T), sc_P e.1 = some e.2 := mi_tb mi_P78 (mi_tb mi_P16 (mi_tb mi_P49 (mi_tb mi_P66 (mi_tb mi_P72 (mi_tb_e)))))
set_option maxRecDepth 20000 in
theorem ms_sfB_3 {h : sm_H} {d : Nat} {Q : Option mi_V → sm_H → Prop} {zf ze zp zn : Int} {zx zs : Int64} (hS : ab_Sh sx_sk h) (ok_zf : mi_in zf) (ok_ze : mi_in ze) (ok_zp : mi_in zp) (ok_zn : mi_in zn) (ho : (ze ≠ ((0 : Int))) ∧ (zp ≠ ((-1 : Int))) ∧ (zn < ((60 : Int))) ∧ (zp < ((0 : Int)))) (kon : ∀ h1, me_W [] h h1 → ∃ Q1, me_E (d + 3) 74 0 (mi_entry 2 [.inr (.inr 78), .inl (zp)]) [] h1 Q1 ∧ ∀ w h2, (∀ x, w = some x → mi_ok x) → Q1 w h2 → me_E (d + 4) 78 50 [some (.inr (.inr 78)), some (.inl (zf)), some (.inr (.inl (zx))), none, some (.inr (.inl (zs ||| (Int64.ofNat 0)))), none, some (.inl (ze)), some (.inl (zp)), some (.inl (zn))] (mi_back w []) h2 Q) : me_E (d + 4) 78 12 [some (.inr (.inr 78)), some (.inl (zf)), some (.inr (.inl (zx))), none, some (.inr (.inl (zs))), none, some (.inl (ze)), some (.inl (zp)), some (.inl (zn))] [] h Q := mf_seg (mp_sfB_3 h d zf ze zp zn zx zs) (mi_tab_sfB_3) hS (mi_okL_c (trivial) (mi_okL_c (ok_zf) (mi_okL_c (trivial) (mi_okL_n (mi_okL_c (trivial) (mi_okL_n (mi_okL_c (ok_ze) (mi_okL_c (ok_zp) (mi_okL_c (ok_zn) (mi_okL_e)))))))))) (mi_okS_e) (mi_al (ho.1) (mi_al (ho.2.1) (mi_al (ho.2.2.1) (mi_al (ho.2.2.2) (mi_al_e))))) (fun h1 W _ hst => let ⟨_, k1, k2⟩ := kon h1 W; mf_call (M := (9, 2, sb_78)) (M' := (2, 4, sb_74)) rfl rfl rfl rfl (Nat.le_of_ble_eq_true rfl) (Nat.le_of_ble_eq_true rfl) W.1 k1 k2)
set_option maxRecDepth 20000 in
theorem mp_sfB_4 (h : sm_H) (d : Nat) (zf ze zp zn : Int) (zx zs : Int64) : mj_path [(78, (9, 2, sb_78)), (16, (3, 0, sb_16)), (49, (2, 1, sb_49)), (66, (4, 0, sb_66)), (72, (2, 2, sb_72))] sx_sk h 25 [0, 0, 0, 0, 1] (d + 4, 78, 12, [some (.inr (.inr 78)), some (.inl (zf)), some (.inr (.inl (zx))), none, some (.inr (.inl (zs))), none, some (.inl (ze)), some (.inl (zp)), some (.inl (zn))], [], [], []) = some ((d + 4, 78, 47, [some (.inr (.inr 78)), some (.inl (zf)), some (.inr (.inl (zx))), none, some (.inr (.inl (zs ||| (Int64.ofNat 0)))), none, some (.inl (ze)), some (.inl (zp)), some (.inl (zn))], [.inl (zp), .inr (.inr 78)], [], []), [ze ≠ ((0 : Int)), zp ≠ ((-1 : Int)), zn < ((60 : Int)), ((0 : Int)) ≤ zp, ((60 : Int)) ≤ zp]) := rfl
theorem mi_tab_sfB_4 : ∀ e ∈ ([(78, (9, 2, sb_78)), (16, (3, 0, sb_16)), (49, (2, 1, sb_49)), (66, (4, 0, sb_66)), (72, (2, 2, sb_72))] : mi_T), sc_P e.1 = some e.2 := mi_tb mi_P78 (mi_tb mi_P16 (mi_tb mi_P49 (mi_tb mi_P66 (mi_tb mi_P72 (mi_tb_e)))))
set_option maxRecDepth 20000 in
theorem ms_sfB_4 {h : sm_H} {d : Nat} {Q : Option mi_V → sm_H → Prop} {zf ze zp zn : Int} {zx zs : Int64} (hS : ab_Sh sx_sk h) (ok_zf : mi_in zf) (ok_ze : mi_in ze) (ok_zp : mi_in zp) (ok_zn : mi_in zn) (ho : (ze ≠ ((0 : Int))) ∧ (zp ≠ ((-1 : Int))) ∧ (zn < ((60 : Int))) ∧ (((0 : Int)) ≤ zp) ∧ (((60 : Int)) ≤ zp)) (kon : ∀ h1, me_W [] h h1 → ∃ Q1, me_E (d + 3) 74 0 (mi_entry 2 [.inr (.inr 78), .inl (zp)]) [] h1 Q1 ∧ ∀ w h2, (∀ x, w = some x → mi_ok x) → Q1 w h2 → me_E (d + 4) 78 50 [some (.inr (.inr 78)), some (.inl (zf)), some (.inr (.inl (zx))), none, some (.inr (.inl (zs ||| (Int64.ofNat 0)))), none, some (.inl (ze)), some (.inl (zp)), some (.inl (zn))] (mi_back w []) h2 Q) : me_E (d + 4) 78 12 [some (.inr (.inr 78)), some (.inl (zf)), some (.inr (.inl (zx))), none, some (.inr (.inl (zs))), none, some (.inl (ze)), some (.inl (zp)), some (.inl (zn))] [] h Q := mf_seg (mp_sfB_4 h d zf ze zp zn zx zs) (mi_tab_sfB_4) hS (mi_okL_c (trivial) (mi_okL_c (ok_zf) (mi_okL_c (trivial) (mi_okL_n (mi_okL_c (trivial) (mi_okL_n (mi_okL_c (ok_ze) (mi_okL_c (ok_zp) (mi_okL_c (ok_zn) (mi_okL_e)))))))))) (mi_okS_e) (mi_al (ho.1) (mi_al (ho.2.1) (mi_al (ho.2.2.1) (mi_al (ho.2.2.2.1) (mi_al (ho.2.2.2.2) (mi_al_e)))))) (fun h1 W _ hst => let ⟨_, k1, k2⟩ := kon h1 W; mf_call (M := (9, 2, sb_78)) (M' := (2, 4, sb_74)) rfl rfl rfl rfl (Nat.le_of_ble_eq_true rfl) (Nat.le_of_ble_eq_true rfl) W.1 k1 k2)
set_option maxRecDepth 20000 in
theorem mp_sfB_5 (h : sm_H) (d : Nat) (zf ze zp zn : Int) (zx zs : Int64) : mj_path [(78, (9, 2, sb_78)), (16, (3, 0, sb_16)), (49, (2, 1, sb_49)), (66, (4, 0, sb_66)), (72, (2, 2, sb_72))] sx_sk h 28 [0, 0, 0, 0, 0] (d + 4, 78, 12, [some (.inr (.inr 78)), some (.inl (zf)), some (.inr (.inl (zx))), none, some (.inr (.inl (zs))), none, some (.inl (ze)), some (.inl (zp)), some (.inl (zn))], [], [], []) = some ((d + 4, 78, 47, [some (.inr (.inr 78)), some (.inl (zf)), some (.inr (.inl (zx))), none, some (.inr (.inl (zs ||| (mx_b h 90 (Int.toNat zp))))), none, some (.inl (ze)), some (.inl (zp)), some (.inl (zn))], [.inl (zp), .inr (.inr 78)], [], []), [ze ≠ ((0 : Int)), zp ≠ ((-1 : Int)), zn < ((60 : Int)), ((0 : Int)) ≤ zp, zp < ((60 : Int)), 0 ≤ zp ∧ zp < 60]) := rfl
theorem mi_tab_sfB_5 : ∀ e ∈ ([(78, (9, 2, sb_78)), (16, (3, 0, sb_16)), (49, (2, 1, sb_49)), (66, (4, 0, sb_66)), (72, (2, 2, sb_72))] : mi_T), sc_P e.1 = some e.2 := mi_tb mi_P78 (mi_tb mi_P16 (mi_tb mi_P49 (mi_tb mi_P66 (mi_tb mi_P72 (mi_tb_e)))))
set_option maxRecDepth 20000 in
theorem ms_sfB_5 {h : sm_H} {d : Nat} {Q : Option mi_V → sm_H → Prop} {zf ze zp zn : Int} {zx zs : Int64} (hS : ab_Sh sx_sk h) (ok_zf : mi_in zf) (ok_ze : mi_in ze) (ok_zp : mi_in zp) (ok_zn : mi_in zn) (ho : (ze ≠ ((0 : Int))) ∧ (zp ≠ ((-1 : Int))) ∧ (zn < ((60 : Int))) ∧ (((0 : Int)) ≤ zp) ∧ (zp < ((60 : Int))) ∧ (0 ≤ zp ∧ zp < 60)) (kon : ∀ h1, me_W [] h h1 → ∃ Q1, me_E (d + 3) 74 0 (mi_entry 2 [.inr (.inr 78), .inl (zp)]) [] h1 Q1 ∧ ∀ w h2, (∀ x, w = some x → mi_ok x) → Q1 w h2 → me_E (d + 4) 78 50 [some (.inr (.inr 78)), some (.inl (zf)), some (.inr (.inl (zx))), none, some (.inr (.inl (zs ||| (mx_b h 90 (Int.toNat zp))))), none, some (.inl (ze)), some (.inl (zp)), some (.inl (zn))] (mi_back w []) h2 Q) : me_E (d + 4) 78 12 [some (.inr (.inr 78)), some (.inl (zf)), some (.inr (.inl (zx))), none, some (.inr (.inl (zs))), none, some (.inl (ze)), some (.inl (zp)), some (.inl (zn))] [] h Q := mf_seg (mp_sfB_5 h d zf ze zp zn zx zs) (mi_tab_sfB_5) hS (mi_okL_c (trivial) (mi_okL_c (ok_zf) (mi_okL_c (trivial) (mi_okL_n (mi_okL_c (trivial) (mi_okL_n (mi_okL_c (ok_ze) (mi_okL_c (ok_zp) (mi_okL_c (ok_zn) (mi_okL_e)))))))))) (mi_okS_e) (mi_al (ho.1) (mi_al (ho.2.1) (mi_al (ho.2.2.1) (mi_al (ho.2.2.2.1) (mi_al (ho.2.2.2.2.1) (mi_al (ho.2.2.2.2.2) (mi_al_e))))))) (fun h1 W _ hst => let ⟨_, k1, k2⟩ := kon h1 W; mf_call (M := (9, 2, sb_78)) (M' := (2, 4, sb_74)) rfl rfl rfl rfl (Nat.le_of_ble_eq_true rfl) (Nat.le_of_ble_eq_true rfl) W.1 k1 k2)
set_option maxRecDepth 20000 in
theorem mt_sfB {h : sm_H} {d : Nat} {Q : Option mi_V → sm_H → Prop} {zf ze zp zn : Int} {zx zs : Int64} (hS : ab_Sh sx_sk h) (ok_zf : mi_in zf) (ok_ze : mi_in ze) (ok_zp : mi_in zp) (ok_zn : mi_in zn) (k0 : (ze = ((0 : Int))) → (∀ h1, ab_Sh sx_sk h1 → ab_Fr [] h h1 → me_E (d + 4) 78 72 [some (.inr (.inr 78)), some (.inl (zf)), some (.inr (.inl (zx))), none, some (.inr (.inl (zs))), none, some (.inl (ze)), some (.inl (zp)), some (.inl (zn))] [] h1 Q)) (k1 : (ze ≠ ((0 : Int))) → (zp = ((-1 : Int))) → (∀ h1, ab_Sh sx_sk h1 → ab_Fr [] h h1 → me_E (d + 4) 78 72 [some (.inr (.inr 78)), some (.inl (zf)), some (.inr (.inl (zx))), none, some (.inr (.inl (zs))), none, some (.inl (ze)), some (.inl (zp)), some (.inl (zn))] [] h1 Q)) (k2 : (ze ≠ ((0 : Int))) → (zp ≠ ((-1 : Int))) → (((60 : Int)) ≤ zn) → (∀ h1, ab_Sh sx_sk h1 → ab_Fr [] h h1 → me_E (d + 4) 78 72 [some (.inr (.inr 78)), some (.inl (zf)), some (.inr (.inl (zx))), none, some (.inr (.inl (zs))), none, some (.inl (ze)), some (.inl (zp)), some (.inl (zn))] [] h1 Q)) (k3 : (ze ≠ ((0 : Int))) → (zp ≠ ((-1 : Int))) → (zn < ((60 : Int))) → (zp < ((0 : Int))) → (∀ h1, ab_Sh sx_sk h1 → ab_Fr [] h h1 → ∃ Q1, me_E (d + 3) 74 0 (mi_entry 2 [.inr (.inr 78), .inl (zp)]) [] h1 Q1 ∧ ∀ w h2, (∀ x, w = some x → mi_ok x) → Q1 w h2 → me_E (d + 4) 78 50 [some (.inr (.inr 78)), some (.inl (zf)), some (.inr (.inl (zx))), none, some (.inr (.inl (zs ||| (Int64.ofNat 0)))), none, some (.inl (ze)), some (.inl (zp)), some (.inl (zn))] (mi_back w []) h2 Q)) (k4 : (ze ≠ ((0 : Int))) → (zp ≠ ((-1 : Int))) → (zn < ((60 : Int))) → (((0 : Int)) ≤ zp) → (((60 : Int)) ≤ zp) → (∀ h1, ab_Sh sx_sk h1 → ab_Fr [] h h1 → ∃ Q1, me_E (d + 3) 74 0 (mi_entry 2 [.inr (.inr 78), .inl (zp)]) [] h1 Q1 ∧ ∀ w h2, (∀ x, w = some x → mi_ok x) → Q1 w h2 → me_E (d + 4) 78 50 [some (.inr (.inr 78)), some (.inl (zf)), some (.inr (.inl (zx))), none, some (.inr (.inl (zs ||| (Int64.ofNat 0)))), none, some (.inl (ze)), some (.inl (zp)), some (.inl (zn))] (mi_back w []) h2 Q)) (k5 : (ze ≠ ((0 : Int))) → (zp ≠ ((-1 : Int))) → (zn < ((60 : Int))) → (((0 : Int)) ≤ zp) → (zp < ((60 : Int))) → ((0 ≤ zp ∧ zp < 60)) ∧ (∀ h1, ab_Sh sx_sk h1 → ab_Fr [] h h1 → ∃ Q1, me_E (d + 3) 74 0 (mi_entry 2 [.inr (.inr 78), .inl (zp)]) [] h1 Q1 ∧ ∀ w h2, (∀ x, w = some x → mi_ok x) → Q1 w h2 → me_E (d + 4) 78 50 [some (.inr (.inr 78)), some (.inl (zf)), some (.inr (.inl (zx))), none, some (.inr (.inl (zs ||| (mx_b h 90 (Int.toNat zp))))), none, some (.inl (ze)), some (.inl (zp)), some (.inl (zn))] (mi_back w []) h2 Q)) : me_E (d + 4) 78 12 [some (.inr (.inr 78)), some (.inl (zf)), some (.inr (.inl (zx))), none, some (.inr (.inl (zs))), none, some (.inl (ze)), some (.inl (zp)), some (.inl (zn))] [] h Q := Or.elim (mi_em .eq (ze) (((0 : Int)))) (fun c0 => ms_sfB_0 hS ok_zf ok_ze ok_zp ok_zn (c0) (fun h1 W => (k0 c0) h1 W.1 (W.2.2.2.2.2 _ rfl))) (fun c0 => Or.elim (mi_em .eq (zp) (((-1 : Int)))) (fun c1 => ms_sfB_1 hS ok_zf ok_ze ok_zp ok_zn ⟨c0, c1⟩ (fun h1 W => (k1 c0 c1) h1 W.1 (W.2.2.2.2.2 _ rfl))) (fun c1 => Or.elim (mi_em .ge (zn) (((60 : Int)))) (fun c2 => ms_sfB_2 hS ok_zf ok_ze ok_zp ok_zn ⟨c0, c1, c2⟩ (fun h1 W => (k2 c0 c1 c2) h1 W.1 (W.2.2.2.2.2 _ rfl))) (fun c2 => Or.elim (mi_em .lt (zp) (((0 : Int)))) (fun c3 => ms_sfB_3 hS ok_zf ok_ze ok_zp ok_zn ⟨c0, c1, c2, c3⟩ (fun h1 W => (k3 c0 c1 c2 c3) h1 W.1 (W.2.2.2.2.2 _ rfl))) (fun c3 => Or.elim (mi_em .ge (zp) (((60 : Int)))) (fun c4 => ms_sfB_4 hS ok_zf ok_ze ok_zp ok_zn ⟨c0, c1, c2, c3, c4⟩ (fun h1 W => (k4 c0 c1 c2 c3 c4) h1 W.1 (W.2.2.2.2.2 _ rfl))) (fun c4 => ms_sfB_5 hS ok_zf ok_ze ok_zp ok_zn ⟨c0, c1, c2, c3, c4, (k5 c0 c1 c2 c3 c4).1⟩ (fun h1 W => (k5 c0 c1 c2 c3 c4).2 h1 W.1 (W.2.2.2.2.2 _ rfl)))))))
set_option maxRecDepth 20000 in
theorem mp_sfC_0 (h : sm_H) (d : Nat) (zf ze zp zn zz : Int) (zx zs : Int64) : mj_path [(78, (9, 2, sb_78)), (16, (3, 0, sb_16)), (49, (2, 1, sb_49)), (66, (4, 0, sb_66)), (72, (2, 2, sb_72))] sx_sk h 13 [1] (d + 4, 78, 50, [some (.inr (.inr 78)), some (.inl (zf)), some (.inr (.inl (zx))), none, some (.inr (.inl (zs))), none, some (.inl (ze)), some (.inl (zp)), some (.inl (zn))], [.inl (zz)], [], []) = some ((d + 4, 78, 12, [some (.inr (.inr 78)), some (.inl (zf)), some (.inr (.inl (zx))), none, some (.inr (.inl (zs))), none, some (.inl (zz)), some (.inl ((0 : Int))), some (.inl (zn + 1))], [], [], []), [zp < ((0 : Int)), -2147483648 ≤ zn + 1 ∧ zn + 1 ≤ 2147483647]) := rfl
theorem mi_tab_sfC_0 : ∀ e ∈ ([(78, (9, 2, sb_78)), (16, (3, 0, sb_16)), (49, (2, 1, sb_49)), (66, (4, 0, sb_66)), (72, (2, 2, sb_72))] : mi_T), sc_P e.1 = some e.2 := mi_tb mi_P78 (mi_tb mi_P16 (mi_tb mi_P49 (mi_tb mi_P66 (mi_tb mi_P72 (mi_tb_e)))))
set_option maxRecDepth 20000 in
theorem ms_sfC_0 {h : sm_H} {d : Nat} {Q : Option mi_V → sm_H → Prop} {zf ze zp zn zz : Int} {zx zs : Int64} (hS : ab_Sh sx_sk h) (ok_zf : mi_in zf) (ok_ze : mi_in ze) (ok_zp : mi_in zp) (ok_zn : mi_in zn) (ok_zz : mi_in zz) (ho : (zp < ((0 : Int))) ∧ (-2147483648 ≤ zn + 1 ∧ zn + 1 ≤ 2147483647)) (kon : ∀ h1, me_W [] h h1 → me_E (d + 4) 78 12 [some (.inr (.inr 78)), some (.inl (zf)), some (.inr (.inl (zx))), none, some (.inr (.inl (zs))), none, some (.inl (zz)), some (.inl ((0 : Int))), some (.inl (zn + 1))] [] h1 Q) : me_E (d + 4) 78 50 [some (.inr (.inr 78)), some (.inl (zf)), some (.inr (.inl (zx))), none, some (.inr (.inl (zs))), none, some (.inl (ze)), some (.inl (zp)), some (.inl (zn))] [.inl (zz)] h Q := mf_seg (mp_sfC_0 h d zf ze zp zn zz zx zs) (mi_tab_sfC_0) hS (mi_okL_c (trivial) (mi_okL_c (ok_zf) (mi_okL_c (trivial) (mi_okL_n (mi_okL_c (trivial) (mi_okL_n (mi_okL_c (ok_ze) (mi_okL_c (ok_zp) (mi_okL_c (ok_zn) (mi_okL_e)))))))))) (mi_okS_cons (ok_zz) (mi_okS_e)) (mi_al (ho.1) (mi_al (ho.2) (mi_al_e))) (fun h1 W _ hst => kon h1 W)
set_option maxRecDepth 20000 in
theorem mp_sfC_1 (h : sm_H) (d : Nat) (zf ze zp zn zz : Int) (zx zs : Int64) : mj_path [(78, (9, 2, sb_78)), (16, (3, 0, sb_16)), (49, (2, 1, sb_49)), (66, (4, 0, sb_66)), (72, (2, 2, sb_72))] sx_sk h 17 [0, 1] (d + 4, 78, 50, [some (.inr (.inr 78)), some (.inl (zf)), some (.inr (.inl (zx))), none, some (.inr (.inl (zs))), none, some (.inl (ze)), some (.inl (zp)), some (.inl (zn))], [.inl (zz)], [], []) = some ((d + 4, 78, 12, [some (.inr (.inr 78)), some (.inl (zf)), some (.inr (.inl (zx))), none, some (.inr (.inl (zs))), none, some (.inl (zz)), some (.inl ((0 : Int))), some (.inl (zn + 1))], [], [], []), [((0 : Int)) ≤ zp, ((60 : Int)) ≤ zp, -2147483648 ≤ zn + 1 ∧ zn + 1 ≤ 2147483647]) := rfl
theorem mi_tab_sfC_1 : ∀ e ∈ ([(78, (9, 2, sb_78)), (16, (3, 0, sb_16)), (49, (2, 1, sb_49)), (66, (4, 0, sb_66)), (72, (2, 2, sb_72))] : mi_T), sc_P e.1 = some e.2 := mi_tb mi_P78 (mi_tb mi_P16 (mi_tb mi_P49 (mi_tb mi_P66 (mi_tb mi_P72 (mi_tb_e)))))
set_option maxRecDepth 20000 in
theorem ms_sfC_1 {h : sm_H} {d : Nat} {Q : Option mi_V → sm_H → Prop} {zf ze zp zn zz : Int} {zx zs : Int64} (hS : ab_Sh sx_sk h) (ok_zf : mi_in zf) (ok_ze : mi_in ze) (ok_zp : mi_in zp) (ok_zn : mi_in zn) (ok_zz : mi_in zz) (ho : (((0 : Int)) ≤ zp) ∧ (((60 : Int)) ≤ zp) ∧ (-2147483648 ≤ zn + 1 ∧ zn + 1 ≤ 2147483647)) (kon : ∀ h1, me_W [] h h1 → me_E (d + 4) 78 12 [some (.inr (.inr 78)), some (.inl (zf)), some (.inr (.inl (zx))), none, some (.inr (.inl (zs))), none, some (.inl (zz)), some (.inl ((0 : Int))), some (.inl (zn + 1))] [] h1 Q) : me_E (d + 4) 78 50 [some (.inr (.inr 78)), some (.inl (zf)), some (.inr (.inl (zx))), none, some (.inr (.inl (zs))), none, some (.inl (ze)), some (.inl (zp)), some (.inl (zn))] [.inl (zz)] h Q := mf_seg (mp_sfC_1 h d zf ze zp zn zz zx zs) (mi_tab_sfC_1) hS (mi_okL_c (trivial) (mi_okL_c (ok_zf) (mi_okL_c (trivial) (mi_okL_n (mi_okL_c (trivial) (mi_okL_n (mi_okL_c (ok_ze) (mi_okL_c (ok_zp) (mi_okL_c (ok_zn) (mi_okL_e)))))))))) (mi_okS_cons (ok_zz) (mi_okS_e)) (mi_al (ho.1) (mi_al (ho.2.1) (mi_al (ho.2.2) (mi_al_e)))) (fun h1 W _ hst => kon h1 W)
set_option maxRecDepth 20000 in
theorem mp_sfC_2 (h : sm_H) (d : Nat) (zf ze zp zn zz : Int) (zx zs : Int64) : mj_path [(78, (9, 2, sb_78)), (16, (3, 0, sb_16)), (49, (2, 1, sb_49)), (66, (4, 0, sb_66)), (72, (2, 2, sb_72))] sx_sk h 20 [0, 0] (d + 4, 78, 50, [some (.inr (.inr 78)), some (.inl (zf)), some (.inr (.inl (zx))), none, some (.inr (.inl (zs))), none, some (.inl (ze)), some (.inl (zp)), some (.inl (zn))], [.inl (zz)], [], []) = some ((d + 4, 78, 12, [some (.inr (.inr 78)), some (.inl (zf)), some (.inr (.inl (zx))), none, some (.inr (.inl (zs))), none, some (.inl (zz)), some (.inl (mi_a h 71 (Int.toNat zp))), some (.inl (zn + 1))], [], [], []), [((0 : Int)) ≤ zp, zp < ((60 : Int)), 0 ≤ zp ∧ zp < 60, -2147483648 ≤ zn + 1 ∧ zn + 1 ≤ 2147483647]) := rfl
theorem mi_tab_sfC_2 : ∀ e ∈ ([(78, (9, 2, sb_78)), (16, (3, 0, sb_16)), (49, (2, 1, sb_49)), (66, (4, 0, sb_66)), (72, (2, 2, sb_72))] : mi_T), sc_P e.1 = some e.2 := mi_tb mi_P78 (mi_tb mi_P16 (mi_tb mi_P49 (mi_tb mi_P66 (mi_tb mi_P72 (mi_tb_e)))))
set_option maxRecDepth 20000 in
theorem ms_sfC_2 {h : sm_H} {d : Nat} {Q : Option mi_V → sm_H → Prop} {zf ze zp zn zz : Int} {zx zs : Int64} (hS : ab_Sh sx_sk h) (ok_zf : mi_in zf) (ok_ze : mi_in ze) (ok_zp : mi_in zp) (ok_zn : mi_in zn) (ok_zz : mi_in zz) (ho : (((0 : Int)) ≤ zp) ∧ (zp < ((60 : Int))) ∧ (0 ≤ zp ∧ zp < 60) ∧ (-2147483648 ≤ zn + 1 ∧ zn + 1 ≤ 2147483647)) (kon : ∀ h1, me_W [] h h1 → me_E (d + 4) 78 12 [some (.inr (.inr 78)), some (.inl (zf)), some (.inr (.inl (zx))), none, some (.inr (.inl (zs))), none, some (.inl (zz)), some (.inl (mi_a h 71 (Int.toNat zp))), some (.inl (zn + 1))] [] h1 Q) : me_E (d + 4) 78 50 [some (.inr (.inr 78)), some (.inl (zf)), some (.inr (.inl (zx))), none, some (.inr (.inl (zs))), none, some (.inl (ze)), some (.inl (zp)), some (.inl (zn))] [.inl (zz)] h Q := mf_seg (mp_sfC_2 h d zf ze zp zn zz zx zs) (mi_tab_sfC_2) hS (mi_okL_c (trivial) (mi_okL_c (ok_zf) (mi_okL_c (trivial) (mi_okL_n (mi_okL_c (trivial) (mi_okL_n (mi_okL_c (ok_ze) (mi_okL_c (ok_zp) (mi_okL_c (ok_zn) (mi_okL_e)))))))))) (mi_okS_cons (ok_zz) (mi_okS_e)) (mi_al (ho.1) (mi_al (ho.2.1) (mi_al (ho.2.2.1) (mi_al (ho.2.2.2) (mi_al_e))))) (fun h1 W _ hst => kon h1 W)
set_option maxRecDepth 20000 in
theorem mt_sfC {h : sm_H} {d : Nat} {Q : Option mi_V → sm_H → Prop} {zf ze zp zn zz : Int} {zx zs : Int64} (hS : ab_Sh sx_sk h) (ok_zf : mi_in zf) (ok_ze : mi_in ze) (ok_zp : mi_in zp) (ok_zn : mi_in zn) (ok_zz : mi_in zz) (k0 : (zp < ((0 : Int))) → ((-2147483648 ≤ zn + 1 ∧ zn + 1 ≤ 2147483647)) ∧ (∀ h1, ab_Sh sx_sk h1 → ab_Fr [] h h1 → me_E (d + 4) 78 12 [some (.inr (.inr 78)), some (.inl (zf)), some (.inr (.inl (zx))), none, some (.inr (.inl (zs))), none, some (.inl (zz)), some (.inl ((0 : Int))), some (.inl (zn + 1))] [] h1 Q)) (k1 : (((0 : Int)) ≤ zp) → (((60 : Int)) ≤ zp) → ((-2147483648 ≤ zn + 1 ∧ zn + 1 ≤ 2147483647)) ∧ (∀ h1, ab_Sh sx_sk h1 → ab_Fr [] h h1 → me_E (d + 4) 78 12 [some (.inr (.inr 78)), some (.inl (zf)), some (.inr (.inl (zx))), none, some (.inr (.inl (zs))), none, some (.inl (zz)), some (.inl ((0 : Int))), some (.inl (zn + 1))] [] h1 Q)) (k2 : (((0 : Int)) ≤ zp) → (zp < ((60 : Int))) → ((0 ≤ zp ∧ zp < 60) ∧ (-2147483648 ≤ zn + 1 ∧ zn + 1 ≤ 2147483647)) ∧ (∀ h1, ab_Sh sx_sk h1 → ab_Fr [] h h1 → me_E (d + 4) 78 12 [some (.inr (.inr 78)), some (.inl (zf)), some (.inr (.inl (zx))), none, some (.inr (.inl (zs))), none, some (.inl (zz)), some (.inl (mi_a h 71 (Int.toNat zp))), some (.inl (zn + 1))] [] h1 Q)) : me_E (d + 4) 78 50 [some (.inr (.inr 78)), some (.inl (zf)), some (.inr (.inl (zx))), none, some (.inr (.inl (zs))), none, some (.inl (ze)), some (.inl (zp)), some (.inl (zn))] [.inl (zz)] h Q := Or.elim (mi_em .lt (zp) (((0 : Int)))) (fun c0 => ms_sfC_0 hS ok_zf ok_ze ok_zp ok_zn ok_zz ⟨c0, (k0 c0).1⟩ (fun h1 W => (k0 c0).2 h1 W.1 (W.2.2.2.2.2 _ rfl))) (fun c0 => Or.elim (mi_em .ge (zp) (((60 : Int)))) (fun c1 => ms_sfC_1 hS ok_zf ok_ze ok_zp ok_zn ok_zz ⟨c0, c1, (k1 c0 c1).1⟩ (fun h1 W => (k1 c0 c1).2 h1 W.1 (W.2.2.2.2.2 _ rfl))) (fun c1 => ms_sfC_2 hS ok_zf ok_ze ok_zp ok_zn ok_zz ⟨c0, c1, (k2 c0 c1).1.1, (k2 c0 c1).1.2⟩ (fun h1 W => (k2 c0 c1).2 h1 W.1 (W.2.2.2.2.2 _ rfl))))
set_option maxRecDepth 20000 in
theorem mp_sfD_0 (h : sm_H) (d : Nat) (zf ze zp zn : Int) (zx zs : Int64) : mj_path [(78, (9, 2, sb_78))] sx_sk h 3 [1] (d + 4, 78, 72, [some (.inr (.inr 78)), some (.inl (zf)), some (.inr (.inl (zx))), none, some (.inr (.inl (zs))), none, some (.inl (ze)), some (.inl (zp)), some (.inl (zn))], [], [], []) = some ((d + 4, 78, 86, [some (.inr (.inr 78)), some (.inl (zf)), some (.inr (.inl (zx))), none, some (.inr (.inl (zs))), none, some (.inl (ze)), some (.inl (zp)), some (.inl (zn))], [.inr (.inl (zs))], [], []), [ze = ((0 : Int))]) := rfl
theorem mi_tab_sfD_0 : ∀ e ∈ ([(78, (9, 2, sb_78))] : mi_T), sc_P e.1 = some e.2 := mi_tb mi_P78 (mi_tb_e)
set_option maxRecDepth 20000 in
theorem ms_sfD_0 {h : sm_H} {d : Nat} {Q : Option mi_V → sm_H → Prop} {zf ze zp zn : Int} {zx zs : Int64} (hS : ab_Sh sx_sk h) (ok_zf : mi_in zf) (ok_ze : mi_in ze) (ok_zp : mi_in zp) (ok_zn : mi_in zn) (ho : (ze = ((0 : Int)))) (kon : ∀ h1, me_W [] h h1 → Q (some (.inr (.inl (zs)))) h1) : me_E (d + 4) 78 72 [some (.inr (.inr 78)), some (.inl (zf)), some (.inr (.inl (zx))), none, some (.inr (.inl (zs))), none, some (.inl (ze)), some (.inl (zp)), some (.inl (zn))] [] h Q := mf_seg (mp_sfD_0 h d zf ze zp zn zx zs) (mi_tab_sfD_0) hS (mi_okL_c (trivial) (mi_okL_c (ok_zf) (mi_okL_c (trivial) (mi_okL_n (mi_okL_c (trivial) (mi_okL_n (mi_okL_c (ok_ze) (mi_okL_c (ok_zp) (mi_okL_c (ok_zn) (mi_okL_e)))))))))) (mi_okS_e) (mi_al (ho) (mi_al_e)) (fun h1 W _ hst => mf_ret (M := (9, 2, sb_78)) rfl rfl rfl hst (mi_al_e) (kon h1 W))
set_option maxRecDepth 20000 in
theorem mp_sfD_1 (h : sm_H) (d : Nat) (zf ze zp zn : Int) (zx zs : Int64) : mj_path [(78, (9, 2, sb_78))] sx_sk h 6 [0] (d + 4, 78, 72, [some (.inr (.inr 78)), some (.inl (zf)), some (.inr (.inl (zx))), none, some (.inr (.inl (zs))), none, some (.inl (ze)), some (.inl (zp)), some (.inl (zn))], [], [], []) = some ((d + 4, 78, 86, [some (.inr (.inr 78)), some (.inl (zf)), some (.inr (.inl (zx))), none, some (.inr (.inl (zs))), none, some (.inl (ze)), some (.inl (zp)), some (.inl (zn))], [.inr (.inl (zs ||| zx))], [], []), [ze ≠ ((0 : Int))]) := rfl
theorem mi_tab_sfD_1 : ∀ e ∈ ([(78, (9, 2, sb_78))] : mi_T), sc_P e.1 = some e.2 := mi_tb mi_P78 (mi_tb_e)
set_option maxRecDepth 20000 in
theorem ms_sfD_1 {h : sm_H} {d : Nat} {Q : Option mi_V → sm_H → Prop} {zf ze zp zn : Int} {zx zs : Int64} (hS : ab_Sh sx_sk h) (ok_zf : mi_in zf) (ok_ze : mi_in ze) (ok_zp : mi_in zp) (ok_zn : mi_in zn) (ho : (ze ≠ ((0 : Int)))) (kon : ∀ h1, me_W [] h h1 → Q (some (.inr (.inl (zs ||| zx)))) h1) : me_E (d + 4) 78 72 [some (.inr (.inr 78)), some (.inl (zf)), some (.inr (.inl (zx))), none, some (.inr (.inl (zs))), none, some (.inl (ze)), some (.inl (zp)), some (.inl (zn))] [] h Q := mf_seg (mp_sfD_1 h d zf ze zp zn zx zs) (mi_tab_sfD_1) hS (mi_okL_c (trivial) (mi_okL_c (ok_zf) (mi_okL_c (trivial) (mi_okL_n (mi_okL_c (trivial) (mi_okL_n (mi_okL_c (ok_ze) (mi_okL_c (ok_zp) (mi_okL_c (ok_zn) (mi_okL_e)))))))))) (mi_okS_e) (mi_al (ho) (mi_al_e)) (fun h1 W _ hst => mf_ret (M := (9, 2, sb_78)) rfl rfl rfl hst (mi_al_e) (kon h1 W))
set_option maxRecDepth 20000 in
theorem mt_sfD {h : sm_H} {d : Nat} {Q : Option mi_V → sm_H → Prop} {zf ze zp zn : Int} {zx zs : Int64} (hS : ab_Sh sx_sk h) (ok_zf : mi_in zf) (ok_ze : mi_in ze) (ok_zp : mi_in zp) (ok_zn : mi_in zn) (k0 : (ze = ((0 : Int))) → (∀ h1, ab_Sh sx_sk h1 → ab_Fr [] h h1 → Q (some (.inr (.inl (zs)))) h1)) (k1 : (ze ≠ ((0 : Int))) → (∀ h1, ab_Sh sx_sk h1 → ab_Fr [] h h1 → Q (some (.inr (.inl (zs ||| zx)))) h1)) : me_E (d + 4) 78 72 [some (.inr (.inr 78)), some (.inl (zf)), some (.inr (.inl (zx))), none, some (.inr (.inl (zs))), none, some (.inl (ze)), some (.inl (zp)), some (.inl (zn))] [] h Q := Or.elim (mi_em .eq (ze) (((0 : Int)))) (fun c0 => ms_sfD_0 hS ok_zf ok_ze ok_zp ok_zn (c0) (fun h1 W => (k0 c0) h1 W.1 (W.2.2.2.2.2 _ rfl))) (fun c0 => ms_sfD_1 hS ok_zf ok_ze ok_zp ok_zn (c0) (fun h1 W => (k1 c0) h1 W.1 (W.2.2.2.2.2 _ rfl)))
set_option maxRecDepth 20000 in
theorem mp_siA_0 (h : sm_H) (d : Nat) (za : Int) (zx : Int64) : mj_path [(77, (12, 0, sb_77)), (16, (3, 0, sb_16)), (49, (2, 1, sb_49)), (66, (4, 0, sb_66)), (72, (2, 2, sb_72))] sx_sk h 12 [1] (d + 5, 77, 0, [some (.inr (.inr 78)), some (.inl (za)), some (.inr (.inl (zx))), none, none, none, none, none, none, none, none, none], [], [], []) = some ((d + 5, 77, 16, [some (.inr (.inr 78)), some (.inl (za)), some (.inr (.inl (zx))), none, some (.inl ((0 : Int))), some (.inl ((0 : Int))), none, none, none, none, none, none], [], [], []), [za < ((0 : Int))]) := rfl
theorem mi_tab_siA_0 : ∀ e ∈ ([(77, (12, 0, sb_77)), (16, (3, 0, sb_16)), (49, (2, 1, sb_49)), (66, (4, 0, sb_66)), (72, (2, 2, sb_72))] : mi_T), sc_P e.1 = some e.2 := mi_tb mi_P77 (mi_tb mi_P16 (mi_tb mi_P49 (mi_tb mi_P66 (mi_tb mi_P72 (mi_tb_e)))))
set_option maxRecDepth 20000 in
theorem ms_siA_0 {h : sm_H} {d : Nat} {Q : Option mi_V → sm_H → Prop} {za : Int} {zx : Int64} (hS : ab_Sh sx_sk h) (ok_za : mi_in za) (ho : (za < ((0 : Int)))) (kon : ∀ h1, me_W [] h h1 → me_E (d + 5) 77 16 [some (.inr (.inr 78)), some (.inl (za)), some (.inr (.inl (zx))), none, some (.inl ((0 : Int))), some (.inl ((0 : Int))), none, none, none, none, none, none] [] h1 Q) : me_E (d + 5) 77 0 [some (.inr (.inr 78)), some (.inl (za)), some (.inr (.inl (zx))), none, none, none, none, none, none, none, none, none] [] h Q := mf_seg (mp_siA_0 h d za zx) (mi_tab_siA_0) hS (mi_okL_c (trivial) (mi_okL_c (ok_za) (mi_okL_c (trivial) (mi_okL_n (mi_okL_n (mi_okL_n (mi_okL_n (mi_okL_n (mi_okL_n (mi_okL_n (mi_okL_n (mi_okL_n (mi_okL_e))))))))))))) (mi_okS_e) (mi_al (ho) (mi_al_e)) (fun h1 W _ hst => kon h1 W)
set_option maxRecDepth 20000 in
theorem mp_siA_1 (h : sm_H) (d : Nat) (za : Int) (zx : Int64) : mj_path [(77, (12, 0, sb_77)), (16, (3, 0, sb_16)), (49, (2, 1, sb_49)), (66, (4, 0, sb_66)), (72, (2, 2, sb_72))] sx_sk h 16 [0, 1] (d + 5, 77, 0, [some (.inr (.inr 78)), some (.inl (za)), some (.inr (.inl (zx))), none, none, none, none, none, none, none, none, none], [], [], []) = some ((d + 5, 77, 16, [some (.inr (.inr 78)), some (.inl (za)), some (.inr (.inl (zx))), none, some (.inl ((0 : Int))), some (.inl ((0 : Int))), none, none, none, none, none, none], [], [], []), [((0 : Int)) ≤ za, ((66 : Int)) ≤ za]) := rfl
theorem mi_tab_siA_1 : ∀ e ∈ ([(77, (12, 0, sb_77)), (16, (3, 0, sb_16)), (49, (2, 1, sb_49)), (66, (4, 0, sb_66)), (72, (2, 2, sb_72))] : mi_T), sc_P e.1 = some e.2 := mi_tb mi_P77 (mi_tb mi_P16 (mi_tb mi_P49 (mi_tb mi_P66 (mi_tb mi_P72 (mi_tb_e)))))
set_option maxRecDepth 20000 in
theorem ms_siA_1 {h : sm_H} {d : Nat} {Q : Option mi_V → sm_H → Prop} {za : Int} {zx : Int64} (hS : ab_Sh sx_sk h) (ok_za : mi_in za) (ho : (((0 : Int)) ≤ za) ∧ (((66 : Int)) ≤ za)) (kon : ∀ h1, me_W [] h h1 → me_E (d + 5) 77 16 [some (.inr (.inr 78)), some (.inl (za)), some (.inr (.inl (zx))), none, some (.inl ((0 : Int))), some (.inl ((0 : Int))), none, none, none, none, none, none] [] h1 Q) : me_E (d + 5) 77 0 [some (.inr (.inr 78)), some (.inl (za)), some (.inr (.inl (zx))), none, none, none, none, none, none, none, none, none] [] h Q := mf_seg (mp_siA_1 h d za zx) (mi_tab_siA_1) hS (mi_okL_c (trivial) (mi_okL_c (ok_za) (mi_okL_c (trivial) (mi_okL_n (mi_okL_n (mi_okL_n (mi_okL_n (mi_okL_n (mi_okL_n (mi_okL_n (mi_okL_n (mi_okL_n (mi_okL_e))))))))))))) (mi_okS_e) (mi_al (ho.1) (mi_al (ho.2) (mi_al_e))) (fun h1 W _ hst => kon h1 W)
set_option maxRecDepth 20000 in
theorem mp_siA_2 (h : sm_H) (d : Nat) (za : Int) (zx : Int64) : mj_path [(77, (12, 0, sb_77)), (16, (3, 0, sb_16)), (49, (2, 1, sb_49)), (66, (4, 0, sb_66)), (72, (2, 2, sb_72))] sx_sk h 19 [0, 0] (d + 5, 77, 0, [some (.inr (.inr 78)), some (.inl (za)), some (.inr (.inl (zx))), none, none, none, none, none, none, none, none, none], [], [], []) = some ((d + 5, 77, 16, [some (.inr (.inr 78)), some (.inl (za)), some (.inr (.inl (zx))), none, some (.inl (mi_a h 65 (Int.toNat za))), some (.inl ((0 : Int))), none, none, none, none, none, none], [], [], []), [((0 : Int)) ≤ za, za < ((66 : Int)), 0 ≤ za ∧ za < 66]) := rfl
theorem mi_tab_siA_2 : ∀ e ∈ ([(77, (12, 0, sb_77)), (16, (3, 0, sb_16)), (49, (2, 1, sb_49)), (66, (4, 0, sb_66)), (72, (2, 2, sb_72))] : mi_T), sc_P e.1 = some e.2 := mi_tb mi_P77 (mi_tb mi_P16 (mi_tb mi_P49 (mi_tb mi_P66 (mi_tb mi_P72 (mi_tb_e)))))
set_option maxRecDepth 20000 in
theorem ms_siA_2 {h : sm_H} {d : Nat} {Q : Option mi_V → sm_H → Prop} {za : Int} {zx : Int64} (hS : ab_Sh sx_sk h) (ok_za : mi_in za) (ho : (((0 : Int)) ≤ za) ∧ (za < ((66 : Int))) ∧ (0 ≤ za ∧ za < 66)) (kon : ∀ h1, me_W [] h h1 → me_E (d + 5) 77 16 [some (.inr (.inr 78)), some (.inl (za)), some (.inr (.inl (zx))), none, some (.inl (mi_a h 65 (Int.toNat za))), some (.inl ((0 : Int))), none, none, none, none, none, none] [] h1 Q) : me_E (d + 5) 77 0 [some (.inr (.inr 78)), some (.inl (za)), some (.inr (.inl (zx))), none, none, none, none, none, none, none, none, none] [] h Q := mf_seg (mp_siA_2 h d za zx) (mi_tab_siA_2) hS (mi_okL_c (trivial) (mi_okL_c (ok_za) (mi_okL_c (trivial) (mi_okL_n (mi_okL_n (mi_okL_n (mi_okL_n (mi_okL_n (mi_okL_n (mi_okL_n (mi_okL_n (mi_okL_n (mi_okL_e))))))))))))) (mi_okS_e) (mi_al (ho.1) (mi_al (ho.2.1) (mi_al (ho.2.2) (mi_al_e)))) (fun h1 W _ hst => kon h1 W)
set_option maxRecDepth 20000 in
theorem mt_siA {h : sm_H} {d : Nat} {Q : Option mi_V → sm_H → Prop} {za : Int} {zx : Int64} (hS : ab_Sh sx_sk h) (ok_za : mi_in za) (k0 : (za < ((0 : Int))) → (∀ h1, ab_Sh sx_sk h1 → ab_Fr [] h h1 → me_E (d + 5) 77 16 [some (.inr (.inr 78)), some (.inl (za)), some (.inr (.inl (zx))), none, some (.inl ((0 : Int))), some (.inl ((0 : Int))), none, none, none, none, none, none] [] h1 Q)) (k1 : (((0 : Int)) ≤ za) → (((66 : Int)) ≤ za) → (∀ h1, ab_Sh sx_sk h1 → ab_Fr [] h h1 → me_E (d + 5) 77 16 [some (.inr (.inr 78)), some (.inl (za)), some (.inr (.inl (zx))), none, some (.inl ((0 : Int))), some (.inl ((0 : Int))), none, none, none, none, none, none] [] h1 Q)) (k2 : (((0 : Int)) ≤ za) → (za < ((66 : Int))) → ((0 ≤ za ∧ za < 66)) ∧ (∀ h1, ab_Sh sx_sk h1 → ab_Fr [] h h1 → me_E (d + 5) 77 16 [some (.inr (.inr 78)), some (.inl (za)), some (.inr (.inl (zx))), none, some (.inl (mi_a h 65 (Int.toNat za))), some (.inl ((0 : Int))), none, none, none, none, none, none] [] h1 Q)) : me_E (d + 5) 77 0 [some (.inr (.inr 78)), some (.inl (za)), some (.inr (.inl (zx))), none, none, none, none, none, none, none, none, none] [] h Q := Or.elim (mi_em .lt (za) (((0 : Int)))) (fun c0 => ms_siA_0 hS ok_za (c0) (fun h1 W => (k0 c0) h1 W.1 (W.2.2.2.2.2 _ rfl))) (fun c0 => Or.elim (mi_em .ge (za) (((66 : Int)))) (fun c1 => ms_siA_1 hS ok_za ⟨c0, c1⟩ (fun h1 W => (k1 c0 c1) h1 W.1 (W.2.2.2.2.2 _ rfl))) (fun c1 => ms_siA_2 hS ok_za ⟨c0, c1, (k2 c0 c1).1⟩ (fun h1 W => (k2 c0 c1).2 h1 W.1 (W.2.2.2.2.2 _ rfl))))
set_option maxRecDepth 20000 in
theorem mp_siB_0 (h : sm_H) (d : Nat) (za zp zn : Int) (zx : Int64) (q6 q7 q8 q9 qa qb : Option mi_V) : mj_path [(77, (12, 0, sb_77)), (16, (3, 0, sb_16)), (49, (2, 1, sb_49)), (66, (4, 0, sb_66)), (72, (2, 2, sb_72))] sx_sk h 3 [1] (d + 5, 77, 16, [some (.inr (.inr 78)), some (.inl (za)), some (.inr (.inl (zx))), none, some (.inl (zp)), some (.inl (zn)), q6, q7, q8, q9, qa, qb], [], [], []) = some ((d + 5, 77, 172, [some (.inr (.inr 78)), some (.inl (za)), some (.inr (.inl (zx))), none, some (.inl (zp)), some (.inl (zn)), q6, q7, q8, q9, qa, qb], [], [], []), [zp = ((-1 : Int))]) := rfl
theorem mi_tab_siB_0 : ∀ e ∈ ([(77, (12, 0, sb_77)), (16, (3, 0, sb_16)), (49, (2, 1, sb_49)), (66, (4, 0, sb_66)), (72, (2, 2, sb_72))] : mi_T), sc_P e.1 = some e.2 := mi_tb mi_P77 (mi_tb mi_P16 (mi_tb mi_P49 (mi_tb mi_P66 (mi_tb mi_P72 (mi_tb_e)))))
set_option maxRecDepth 20000 in
theorem ms_siB_0 {h : sm_H} {d : Nat} {Q : Option mi_V → sm_H → Prop} {za zp zn : Int} {zx : Int64} {q6 q7 q8 q9 qa qb : Option mi_V} (hS : ab_Sh sx_sk h) (ok_za : mi_in za) (ok_zp : mi_in zp) (ok_zn : mi_in zn) (ok_q6 : ∀ v, q6 = some v → mi_ok v) (ok_q7 : ∀ v, q7 = some v → mi_ok v) (ok_q8 : ∀ v, q8 = some v → mi_ok v) (ok_q9 : ∀ v, q9 = some v → mi_ok v) (ok_qa : ∀ v, qa = some v → mi_ok v) (ok_qb : ∀ v, qb = some v → mi_ok v) (ho : (zp = ((-1 : Int)))) (kon : ∀ h1, me_W [] h h1 → Q none h1) : me_E (d + 5) 77 16 [some (.inr (.inr 78)), some (.inl (za)), some (.inr (.inl (zx))), none, some (.inl (zp)), some (.inl (zn)), q6, q7, q8, q9, qa, qb] [] h Q := mf_seg (mp_siB_0 h d za zp zn zx q6 q7 q8 q9 qa qb) (mi_tab_siB_0) hS (mi_okL_c (trivial) (mi_okL_c (ok_za) (mi_okL_c (trivial) (mi_okL_n (mi_okL_c (ok_zp) (mi_okL_c (ok_zn) (mi_okL_o ok_q6 (mi_okL_o ok_q7 (mi_okL_o ok_q8 (mi_okL_o ok_q9 (mi_okL_o ok_qa (mi_okL_o ok_qb (mi_okL_e))))))))))))) (mi_okS_e) (mi_al (ho) (mi_al_e)) (fun h1 W _ hst => mf_ret (M := (12, 0, sb_77)) rfl rfl rfl hst (mi_al_e) (kon h1 W))
set_option maxRecDepth 20000 in
theorem mp_siB_1 (h : sm_H) (d : Nat) (za zp zn : Int) (zx : Int64) (q6 q7 q8 q9 qa qb : Option mi_V) : mj_path [(77, (12, 0, sb_77)), (16, (3, 0, sb_16)), (49, (2, 1, sb_49)), (66, (4, 0, sb_66)), (72, (2, 2, sb_72))] sx_sk h 6 [0, 1] (d + 5, 77, 16, [some (.inr (.inr 78)), some (.inl (za)), some (.inr (.inl (zx))), none, some (.inl (zp)), some (.inl (zn)), q6, q7, q8, q9, qa, qb], [], [], []) = some ((d + 5, 77, 172, [some (.inr (.inr 78)), some (.inl (za)), some (.inr (.inl (zx))), none, some (.inl (zp)), some (.inl (zn)), q6, q7, q8, q9, qa, qb], [], [], []), [zp ≠ ((-1 : Int)), ((60 : Int)) ≤ zn]) := rfl
theorem mi_tab_siB_1 : ∀ e ∈ ([(77, (12, 0, sb_77)), (16, (3, 0, sb_16)), (49, (2, 1, sb_49)), (66, (4, 0, sb_66)), (72, (2, 2, sb_72))] : mi_T), sc_P e.1 = some e.2 := mi_tb mi_P77 (mi_tb mi_P16 (mi_tb mi_P49 (mi_tb mi_P66 (mi_tb mi_P72 (mi_tb_e)))))
set_option maxRecDepth 20000 in
theorem ms_siB_1 {h : sm_H} {d : Nat} {Q : Option mi_V → sm_H → Prop} {za zp zn : Int} {zx : Int64} {q6 q7 q8 q9 qa qb : Option mi_V} (hS : ab_Sh sx_sk h) (ok_za : mi_in za) (ok_zp : mi_in zp) (ok_zn : mi_in zn) (ok_q6 : ∀ v, q6 = some v → mi_ok v) (ok_q7 : ∀ v, q7 = some v → mi_ok v) (ok_q8 : ∀ v, q8 = some v → mi_ok v) (ok_q9 : ∀ v, q9 = some v → mi_ok v) (ok_qa : ∀ v, qa = some v → mi_ok v) (ok_qb : ∀ v, qb = some v → mi_ok v) (ho : (zp ≠ ((-1 : Int))) ∧ (((60 : Int)) ≤ zn)) (kon : ∀ h1, me_W [] h h1 → Q none h1) : me_E (d + 5) 77 16 [some (.inr (.inr 78)), some (.inl (za)), some (.inr (.inl (zx))), none, some (.inl (zp)), some (.inl (zn)), q6, q7, q8, q9, qa, qb] [] h Q := mf_seg (mp_siB_1 h d za zp zn zx q6 q7 q8 q9 qa qb) (mi_tab_siB_1) hS (mi_okL_c (trivial) (mi_okL_c (ok_za) (mi_okL_c (trivial) (mi_okL_n (mi_okL_c (ok_zp) (mi_okL_c (ok_zn) (mi_okL_o ok_q6 (mi_okL_o ok_q7 (mi_okL_o ok_q8 (mi_okL_o ok_q9 (mi_okL_o ok_qa (mi_okL_o ok_qb (mi_okL_e))))))))))))) (mi_okS_e) (mi_al (ho.1) (mi_al (ho.2) (mi_al_e))) (fun h1 W _ hst => mf_ret (M := (12, 0, sb_77)) rfl rfl rfl hst (mi_al_e) (kon h1 W))
set_option maxRecDepth 20000 in
theorem mp_siB_2 (h : sm_H) (d : Nat) (za zp zn : Int) (zx : Int64) (q6 q7 q8 q9 qa qb : Option mi_V) : mj_path [(77, (12, 0, sb_77)), (16, (3, 0, sb_16)), (49, (2, 1, sb_49)), (66, (4, 0, sb_66)), (72, (2, 2, sb_72))] sx_sk h 19 [0, 0, 1] (d + 5, 77, 16, [some (.inr (.inr 78)), some (.inl (za)), some (.inr (.inl (zx))), none, some (.inl (zp)), some (.inl (zn)), q6, q7, q8, q9, qa, qb], [], [], []) = some ((d + 5, 77, 47, [some (.inr (.inr 78)), some (.inl (za)), some (.inr (.inl (zx))), none, some (.inl (zp)), some (.inl (zn)), some (.inl ((0 : Int))), q7, q8, q9, qa, qb], [.inr (.inl (zx)), .inl ((0 : Int)), .inr (.inr 78)], [], []), [zp ≠ ((-1 : Int)), zn < ((60 : Int)), zp < ((0 : Int))]) := rfl
theorem mi_tab_siB_2 : ∀ e ∈ ([(77, (12, 0, sb_77)), (16, (3, 0, sb_16)), (49, (2, 1, sb_49)), (66, (4, 0, sb_66)), (72, (2, 2, sb_72))] : mi_T), sc_P e.1 = some e.2 := mi_tb mi_P77 (mi_tb mi_P16 (mi_tb mi_P49 (mi_tb mi_P66 (mi_tb mi_P72 (mi_tb_e)))))
set_option maxRecDepth 20000 in
theorem ms_siB_2 {h : sm_H} {d : Nat} {Q : Option mi_V → sm_H → Prop} {za zp zn : Int} {zx : Int64} {q6 q7 q8 q9 qa qb : Option mi_V} (hS : ab_Sh sx_sk h) (ok_za : mi_in za) (ok_zp : mi_in zp) (ok_zn : mi_in zn) (ok_q6 : ∀ v, q6 = some v → mi_ok v) (ok_q7 : ∀ v, q7 = some v → mi_ok v) (ok_q8 : ∀ v, q8 = some v → mi_ok v) (ok_q9 : ∀ v, q9 = some v → mi_ok v) (ok_qa : ∀ v, qa = some v → mi_ok v) (ok_qb : ∀ v, qb = some v → mi_ok v) (ho : (zp ≠ ((-1 : Int))) ∧ (zn < ((60 : Int))) ∧ (zp < ((0 : Int)))) (kon : ∀ h1, me_W [] h h1 → ∃ Q1, me_E (d + 4) 78 0 (mi_entry 9 [.inr (.inr 78), .inl ((0 : Int)), .inr (.inl (zx))]) [] h1 Q1 ∧ ∀ w h2, (∀ x, w = some x → mi_ok x) → Q1 w h2 → me_E (d + 5) 77 50 [some (.inr (.inr 78)), some (.inl (za)), some (.inr (.inl (zx))), none, some (.inl (zp)), some (.inl (zn)), some (.inl ((0 : Int))), q7, q8, q9, qa, qb] (mi_back w []) h2 Q) : me_E (d + 5) 77 16 [some (.inr (.inr 78)), some (.inl (za)), some (.inr (.inl (zx))), none, some (.inl (zp)), some (.inl (zn)), q6, q7, q8, q9, qa, qb] [] h Q := mf_seg (mp_siB_2 h d za zp zn zx q6 q7 q8 q9 qa qb) (mi_tab_siB_2) hS (mi_okL_c (trivial) (mi_okL_c (ok_za) (mi_okL_c (trivial) (mi_okL_n (mi_okL_c (ok_zp) (mi_okL_c (ok_zn) (mi_okL_o ok_q6 (mi_okL_o ok_q7 (mi_okL_o ok_q8 (mi_okL_o ok_q9 (mi_okL_o ok_qa (mi_okL_o ok_qb (mi_okL_e))))))))))))) (mi_okS_e) (mi_al (ho.1) (mi_al (ho.2.1) (mi_al (ho.2.2) (mi_al_e)))) (fun h1 W _ hst => let ⟨_, k1, k2⟩ := kon h1 W; mf_call (M := (12, 0, sb_77)) (M' := (9, 2, sb_78)) rfl rfl rfl rfl (Nat.le_of_ble_eq_true rfl) (Nat.le_of_ble_eq_true rfl) W.1 k1 k2)
set_option maxRecDepth 20000 in
theorem mp_siB_3 (h : sm_H) (d : Nat) (za zp zn : Int) (zx : Int64) (q6 q7 q8 q9 qa qb : Option mi_V) : mj_path [(77, (12, 0, sb_77)), (16, (3, 0, sb_16)), (49, (2, 1, sb_49)), (66, (4, 0, sb_66)), (72, (2, 2, sb_72))] sx_sk h 23 [0, 0, 0, 1] (d + 5, 77, 16, [some (.inr (.inr 78)), some (.inl (za)), some (.inr (.inl (zx))), none, some (.inl (zp)), some (.inl (zn)), q6, q7, q8, q9, qa, qb], [], [], []) = some ((d + 5, 77, 47, [some (.inr (.inr 78)), some (.inl (za)), some (.inr (.inl (zx))), none, some (.inl (zp)), some (.inl (zn)), some (.inl ((0 : Int))), q7, q8, q9, qa, qb], [.inr (.inl (zx)), .inl ((0 : Int)), .inr (.inr 78)], [], []), [zp ≠ ((-1 : Int)), zn < ((60 : Int)), ((0 : Int)) ≤ zp, ((60 : Int)) ≤ zp]) := rfl
theorem mi_tab_siB_3 : ∀ e ∈ ([(77, (12, 0, sb_77)), (16, (3, 0, sb_16)), (49, (2, 1, sb_49)), (66, (4, 0, sb_66)), (72, (2, 2, sb_72))] : mi_T), sc_P e.1 = some e.2 := mi_tb mi_P77 (mi_tb mi_P16 (mi_tb mi_P49 (mi_tb mi_P66 (mi_tb mi_P72 (mi_tb_e)))))
set_option maxRecDepth 20000 in
theorem ms_siB_3 {h : sm_H} {d : Nat} {Q : Option mi_V → sm_H → Prop} {za zp zn : Int} {zx : Int64} {q6 q7 q8 q9 qa qb : Option mi_V} (hS : ab_Sh sx_sk h) (ok_za : mi_in za) (ok_zp : mi_in zp) (ok_zn : mi_in zn) (ok_q6 : ∀ v, q6 = some v → mi_ok v) (ok_q7 : ∀ v, q7 = some v → mi_ok v) (ok_q8 : ∀ v, q8 = some v → mi_ok v) (ok_q9 : ∀ v, q9 = some v → mi_ok v) (ok_qa : ∀ v, qa = some v → mi_ok v) (ok_qb : ∀ v, qb = some v → mi_ok v) (ho : (zp ≠ ((-1 : Int))) ∧ (zn < ((60 : Int))) ∧ (((0 : Int)) ≤ zp) ∧ (((60 : Int)) ≤ zp)) (kon : ∀ h1, me_W [] h h1 → ∃ Q1, me_E (d + 4) 78 0 (mi_entry 9 [.inr (.inr 78), .inl ((0 : Int)), .inr (.inl (zx))]) [] h1 Q1 ∧ ∀ w h2, (∀ x, w = some x → mi_ok x) → Q1 w h2 → me_E (d + 5) 77 50 [some (.inr (.inr 78)), some (.inl (za)), some (.inr (.inl (zx))), none, some (.inl (zp)), some (.inl (zn)), some (.inl ((0 : Int))), q7, q8, q9, qa, qb] (mi_back w []) h2 Q) : me_E (d + 5) 77 16 [some (.inr (.inr 78)), some (.inl (za)), some (.inr (.inl (zx))), none, some (.inl (zp)), some (.inl (zn)), q6, q7, q8, q9, qa, qb] [] h Q := mf_seg (mp_siB_3 h d za zp zn zx q6 q7 q8 q9 qa qb) (mi_tab_siB_3) hS (mi_okL_c (trivial) (mi_okL_c (ok_za) (mi_okL_c (trivial) (mi_okL_n (mi_okL_c (ok_zp) (mi_okL_c (ok_zn) (mi_okL_o ok_q6 (mi_okL_o ok_q7 (mi_okL_o ok_q8 (mi_okL_o ok_q9 (mi_okL_o ok_qa (mi_okL_o ok_qb (mi_okL_e))))))))))))) (mi_okS_e) (mi_al (ho.1) (mi_al (ho.2.1) (mi_al (ho.2.2.1) (mi_al (ho.2.2.2) (mi_al_e))))) (fun h1 W _ hst => let ⟨_, k1, k2⟩ := kon h1 W; mf_call (M := (12, 0, sb_77)) (M' := (9, 2, sb_78)) rfl rfl rfl rfl (Nat.le_of_ble_eq_true rfl) (Nat.le_of_ble_eq_true rfl) W.1 k1 k2)
set_option maxRecDepth 20000 in
theorem mp_siB_4 (h : sm_H) (d : Nat) (za zp zn : Int) (zx : Int64) (q6 q7 q8 q9 qa qb : Option mi_V) : mj_path [(77, (12, 0, sb_77)), (16, (3, 0, sb_16)), (49, (2, 1, sb_49)), (66, (4, 0, sb_66)), (72, (2, 2, sb_72))] sx_sk h 26 [0, 0, 0, 0] (d + 5, 77, 16, [some (.inr (.inr 78)), some (.inl (za)), some (.inr (.inl (zx))), none, some (.inl (zp)), some (.inl (zn)), q6, q7, q8, q9, qa, qb], [], [], []) = some ((d + 5, 77, 47, [some (.inr (.inr 78)), some (.inl (za)), some (.inr (.inl (zx))), none, some (.inl (zp)), some (.inl (zn)), some (.inl (mi_a h 71 (Int.toNat zp))), q7, q8, q9, qa, qb], [.inr (.inl (zx)), .inl (mi_a h 71 (Int.toNat zp)), .inr (.inr 78)], [], []), [zp ≠ ((-1 : Int)), zn < ((60 : Int)), ((0 : Int)) ≤ zp, zp < ((60 : Int)), 0 ≤ zp ∧ zp < 60]) := rfl
theorem mi_tab_siB_4 : ∀ e ∈ ([(77, (12, 0, sb_77)), (16, (3, 0, sb_16)), (49, (2, 1, sb_49)), (66, (4, 0, sb_66)), (72, (2, 2, sb_72))] : mi_T), sc_P e.1 = some e.2 := mi_tb mi_P77 (mi_tb mi_P16 (mi_tb mi_P49 (mi_tb mi_P66 (mi_tb mi_P72 (mi_tb_e)))))
set_option maxRecDepth 20000 in
theorem ms_siB_4 {h : sm_H} {d : Nat} {Q : Option mi_V → sm_H → Prop} {za zp zn : Int} {zx : Int64} {q6 q7 q8 q9 qa qb : Option mi_V} (hS : ab_Sh sx_sk h) (ok_za : mi_in za) (ok_zp : mi_in zp) (ok_zn : mi_in zn) (ok_q6 : ∀ v, q6 = some v → mi_ok v) (ok_q7 : ∀ v, q7 = some v → mi_ok v) (ok_q8 : ∀ v, q8 = some v → mi_ok v) (ok_q9 : ∀ v, q9 = some v → mi_ok v) (ok_qa : ∀ v, qa = some v → mi_ok v) (ok_qb : ∀ v, qb = some v → mi_ok v) (ho : (zp ≠ ((-1 : Int))) ∧ (zn < ((60 : Int))) ∧ (((0 : Int)) ≤ zp) ∧ (zp < ((60 : Int))) ∧ (0 ≤ zp ∧ zp < 60)) (kon : ∀ h1, me_W [] h h1 → ∃ Q1, me_E (d + 4) 78 0 (mi_entry 9 [.inr (.inr 78), .inl (mi_a h 71 (Int.toNat zp)), .inr (.inl (zx))]) [] h1 Q1 ∧ ∀ w h2, (∀ x, w = some x → mi_ok x) → Q1 w h2 → me_E (d + 5) 77 50 [some (.inr (.inr 78)), some (.inl (za)), some (.inr (.inl (zx))), none, some (.inl (zp)), some (.inl (zn)), some (.inl (mi_a h 71 (Int.toNat zp))), q7, q8, q9, qa, qb] (mi_back w []) h2 Q) : me_E (d + 5) 77 16 [some (.inr (.inr 78)), some (.inl (za)), some (.inr (.inl (zx))), none, some (.inl (zp)), some (.inl (zn)), q6, q7, q8, q9, qa, qb] [] h Q := mf_seg (mp_siB_4 h d za zp zn zx q6 q7 q8 q9 qa qb) (mi_tab_siB_4) hS (mi_okL_c (trivial) (mi_okL_c (ok_za) (mi_okL_c (trivial) (mi_okL_n (mi_okL_c (ok_zp) (mi_okL_c (ok_zn) (mi_okL_o ok_q6 (mi_okL_o ok_q7 (mi_okL_o ok_q8 (mi_okL_o ok_q9 (mi_okL_o ok_qa (mi_okL_o ok_qb (mi_okL_e))))))))))))) (mi_okS_e) (mi_al (ho.1) (mi_al (ho.2.1) (mi_al (ho.2.2.1) (mi_al (ho.2.2.2.1) (mi_al (ho.2.2.2.2) (mi_al_e)))))) (fun h1 W _ hst => let ⟨_, k1, k2⟩ := kon h1 W; mf_call (M := (12, 0, sb_77)) (M' := (9, 2, sb_78)) rfl rfl rfl rfl (Nat.le_of_ble_eq_true rfl) (Nat.le_of_ble_eq_true rfl) W.1 k1 k2)
set_option maxRecDepth 20000 in
theorem mt_siB {h : sm_H} {d : Nat} {Q : Option mi_V → sm_H → Prop} {za zp zn : Int} {zx : Int64} {q6 q7 q8 q9 qa qb : Option mi_V} (hS : ab_Sh sx_sk h) (ok_za : mi_in za) (ok_zp : mi_in zp) (ok_zn : mi_in zn) (ok_q6 : ∀ v, q6 = some v → mi_ok v) (ok_q7 : ∀ v, q7 = some v → mi_ok v) (ok_q8 : ∀ v, q8 = some v → mi_ok v) (ok_q9 : ∀ v, q9 = some v → mi_ok v) (ok_qa : ∀ v, qa = some v → mi_ok v) (ok_qb : ∀ v, qb = some v → mi_ok v) (k0 : (zp = ((-1 : Int))) → (∀ h1, ab_Sh sx_sk h1 → ab_Fr [] h h1 → Q none h1)) (k1 : (zp ≠ ((-1 : Int))) → (((60 : Int)) ≤ zn) → (∀ h1, ab_Sh sx_sk h1 → ab_Fr [] h h1 → Q none h1)) (k2 : (zp ≠ ((-1 : Int))) → (zn < ((60 : Int))) → (zp < ((0 : Int))) → (∀ h1, ab_Sh sx_sk h1 → ab_Fr [] h h1 → ∃ Q1, me_E (d + 4) 78 0 (mi_entry 9 [.inr (.inr 78), .inl ((0 : Int)), .inr (.inl (zx))]) [] h1 Q1 ∧ ∀ w h2, (∀ x, w = some x → mi_ok x) → Q1 w h2 → me_E (d + 5) 77 50 [some (.inr (.inr 78)), some (.inl (za)), some (.inr (.inl (zx))), none, some (.inl (zp)), some (.inl (zn)), some (.inl ((0 : Int))), q7, q8, q9, qa, qb] (mi_back w []) h2 Q)) (k3 : (zp ≠ ((-1 : Int))) → (zn < ((60 : Int))) → (((0 : Int)) ≤ zp) → (((60 : Int)) ≤ zp) → (∀ h1, ab_Sh sx_sk h1 → ab_Fr [] h h1 → ∃ Q1, me_E (d + 4) 78 0 (mi_entry 9 [.inr (.inr 78), .inl ((0 : Int)), .inr (.inl (zx))]) [] h1 Q1 ∧ ∀ w h2, (∀ x, w = some x → mi_ok x) → Q1 w h2 → me_E (d + 5) 77 50 [some (.inr (.inr 78)), some (.inl (za)), some (.inr (.inl (zx))), none, some (.inl (zp)), some (.inl (zn)), some (.inl ((0 : Int))), q7, q8, q9, qa, qb] (mi_back w []) h2 Q)) (k4 : (zp ≠ ((-1 : Int))) → (zn < ((60 : Int))) → (((0 : Int)) ≤ zp) → (zp < ((60 : Int))) → ((0 ≤ zp ∧ zp < 60)) ∧ (∀ h1, ab_Sh sx_sk h1 → ab_Fr [] h h1 → ∃ Q1, me_E (d + 4) 78 0 (mi_entry 9 [.inr (.inr 78), .inl (mi_a h 71 (Int.toNat zp)), .inr (.inl (zx))]) [] h1 Q1 ∧ ∀ w h2, (∀ x, w = some x → mi_ok x) → Q1 w h2 → me_E (d + 5) 77 50 [some (.inr (.inr 78)), some (.inl (za)), some (.inr (.inl (zx))), none, some (.inl (zp)), some (.inl (zn)), some (.inl (mi_a h 71 (Int.toNat zp))), q7, q8, q9, qa, qb] (mi_back w []) h2 Q)) : me_E (d + 5) 77 16 [some (.inr (.inr 78)), some (.inl (za)), some (.inr (.inl (zx))), none, some (.inl (zp)), some (.inl (zn)), q6, q7, q8, q9, qa, qb] [] h Q := Or.elim (mi_em .eq (zp) (((-1 : Int)))) (fun c0 => ms_siB_0 hS ok_za ok_zp ok_zn ok_q6 ok_q7 ok_q8 ok_q9 ok_qa ok_qb (c0) (fun h1 W => (k0 c0) h1 W.1 (W.2.2.2.2.2 _ rfl))) (fun c0 => Or.elim (mi_em .ge (zn) (((60 : Int)))) (fun c1 => ms_siB_1 hS ok_za ok_zp ok_zn ok_q6 ok_q7 ok_q8 ok_q9 ok_qa ok_qb ⟨c0, c1⟩ (fun h1 W => (k1 c0 c1) h1 W.1 (W.2.2.2.2.2 _ rfl))) (fun c1 => Or.elim (mi_em .lt (zp) (((0 : Int)))) (fun c2 => ms_siB_2 hS ok_za ok_zp ok_zn ok_q6 ok_q7 ok_q8 ok_q9 ok_qa ok_qb ⟨c0, c1, c2⟩ (fun h1 W => (k2 c0 c1 c2) h1 W.1 (W.2.2.2.2.2 _ rfl))) (fun c2 => Or.elim (mi_em .ge (zp) (((60 : Int)))) (fun c3 => ms_siB_3 hS ok_za ok_zp ok_zn ok_q6 ok_q7 ok_q8 ok_q9 ok_qa ok_qb ⟨c0, c1, c2, c3⟩ (fun h1 W => (k3 c0 c1 c2 c3) h1 W.1 (W.2.2.2.2.2 _ rfl))) (fun c3 => ms_siB_4 hS ok_za ok_zp ok_zn ok_q6 ok_q7 ok_q8 ok_q9 ok_qa ok_qb ⟨c0, c1, c2, c3, (k4 c0 c1 c2 c3).1⟩ (fun h1 W => (k4 c0 c1 c2 c3).2 h1 W.1 (W.2.2.2.2.2 _ rfl))))))
set_option maxRecDepth 20000 in
theorem mp_siC_0 (h : sm_H) (d : Nat) (za zp zn zq : Int) (zx zy : Int64) (q7 q8 q9 qa qb : Option mi_V) : mj_path [(77, (12, 0, sb_77)), (16, (3, 0, sb_16)), (49, (2, 1, sb_49)), (66, (4, 0, sb_66)), (72, (2, 2, sb_72))] sx_sk h 25 [1, 1, 1] (d + 5, 77, 50, [some (.inr (.inr 78)), some (.inl (za)), some (.inr (.inl (zx))), none, some (.inl (zp)), some (.inl (zn)), some (.inl (zq)), q7, q8, q9, qa, qb], [.inr (.inl (zy))], [], []) = some ((d + 5, 77, 104, [some (.inr (.inr 78)), some (.inl (za)), some (.inr (.inl (zx))), none, some (.inl (zp)), some (.inl (zn)), some (.inl (zq)), some (.inr (.inl (zy))), none, some (.inr (.inl (zy))), none, qb], [.inl (zp), .inr (.inr 60)], [], []), [zp < ((0 : Int)), zp < ((0 : Int)), ((0 : Int)) ≠ ((5 : Int))]) := rfl
theorem mi_tab_siC_0 : ∀ e ∈ ([(77, (12, 0, sb_77)), (16, (3, 0, sb_16)), (49, (2, 1, sb_49)), (66, (4, 0, sb_66)), (72, (2, 2, sb_72))] : mi_T), sc_P e.1 = some e.2 := mi_tb mi_P77 (mi_tb mi_P16 (mi_tb mi_P49 (mi_tb mi_P66 (mi_tb mi_P72 (mi_tb_e)))))
set_option maxRecDepth 20000 in
theorem ms_siC_0 {h : sm_H} {d : Nat} {Q : Option mi_V → sm_H → Prop} {za zp zn zq : Int} {zx zy : Int64} {q7 q8 q9 qa qb : Option mi_V} (hS : ab_Sh sx_sk h) (ok_za : mi_in za) (ok_zp : mi_in zp) (ok_zn : mi_in zn) (ok_zq : mi_in zq) (ok_q7 : ∀ v, q7 = some v → mi_ok v) (ok_q8 : ∀ v, q8 = some v → mi_ok v) (ok_q9 : ∀ v, q9 = some v → mi_ok v) (ok_qa : ∀ v, qa = some v → mi_ok v) (ok_qb : ∀ v, qb = some v → mi_ok v) (ho : (zp < ((0 : Int))) ∧ (zp < ((0 : Int))) ∧ (((0 : Int)) ≠ ((5 : Int)))) (kon : ∀ h1, me_W [] h h1 → ∃ Q1, me_E (d + 4) 71 0 (mi_entry 3 [.inr (.inr 60), .inl (zp)]) [] h1 Q1 ∧ ∀ w h2, (∀ x, w = some x → mi_ok x) → Q1 w h2 → me_E (d + 5) 77 107 [some (.inr (.inr 78)), some (.inl (za)), some (.inr (.inl (zx))), none, some (.inl (zp)), some (.inl (zn)), some (.inl (zq)), some (.inr (.inl (zy))), none, some (.inr (.inl (zy))), none, qb] (mi_back w []) h2 Q) : me_E (d + 5) 77 50 [some (.inr (.inr 78)), some (.inl (za)), some (.inr (.inl (zx))), none, some (.inl (zp)), some (.inl (zn)), some (.inl (zq)), q7, q8, q9, qa, qb] [.inr (.inl (zy))] h Q := mf_seg (mp_siC_0 h d za zp zn zq zx zy q7 q8 q9 qa qb) (mi_tab_siC_0) hS (mi_okL_c (trivial) (mi_okL_c (ok_za) (mi_okL_c (trivial) (mi_okL_n (mi_okL_c (ok_zp) (mi_okL_c (ok_zn) (mi_okL_c (ok_zq) (mi_okL_o ok_q7 (mi_okL_o ok_q8 (mi_okL_o ok_q9 (mi_okL_o ok_qa (mi_okL_o ok_qb (mi_okL_e))))))))))))) (mi_okS_cons (trivial) (mi_okS_e)) (mi_al (ho.1) (mi_al (ho.2.1) (mi_al (ho.2.2) (mi_al_e)))) (fun h1 W _ hst => let ⟨_, k1, k2⟩ := kon h1 W; mf_call (M := (12, 0, sb_77)) (M' := (3, 1, sb_71)) rfl rfl rfl rfl (Nat.le_of_ble_eq_true rfl) (Nat.le_of_ble_eq_true rfl) W.1 k1 k2)
set_option maxRecDepth 20000 in
theorem mp_siC_1 (h : sm_H) (d : Nat) (za zp zn zq : Int) (zx zy : Int64) (q7 q8 q9 qa qb : Option mi_V) : mj_path [(77, (12, 0, sb_77)), (16, (3, 0, sb_16)), (49, (2, 1, sb_49)), (66, (4, 0, sb_66)), (72, (2, 2, sb_72))] sx_sk h 33 [0, 1, 0, 1, 1] (d + 5, 77, 50, [some (.inr (.inr 78)), some (.inl (za)), some (.inr (.inl (zx))), none, some (.inl (zp)), some (.inl (zn)), some (.inl (zq)), q7, q8, q9, qa, qb], [.inr (.inl (zy))], [], []) = some ((d + 5, 77, 104, [some (.inr (.inr 78)), some (.inl (za)), some (.inr (.inl (zx))), none, some (.inl (zp)), some (.inl (zn)), some (.inl (zq)), some (.inr (.inl (zy))), none, some (.inr (.inl (zy))), none, qb], [.inl (zp), .inr (.inr 60)], [], []), [((0 : Int)) ≤ zp, ((60 : Int)) ≤ zp, ((0 : Int)) ≤ zp, ((60 : Int)) ≤ zp, ((0 : Int)) ≠ ((5 : Int))]) := rfl
theorem mi_tab_siC_1 : ∀ e ∈ ([(77, (12, 0, sb_77)), (16, (3, 0, sb_16)), (49, (2, 1, sb_49)), (66, (4, 0, sb_66)), (72, (2, 2, sb_72))] : mi_T), sc_P e.1 = some e.2 := mi_tb mi_P77 (mi_tb mi_P16 (mi_tb mi_P49 (mi_tb mi_P66 (mi_tb mi_P72 (mi_tb_e)))))
set_option maxRecDepth 20000 in
theorem ms_siC_1 {h : sm_H} {d : Nat} {Q : Option mi_V → sm_H → Prop} {za zp zn zq : Int} {zx zy : Int64} {q7 q8 q9 qa qb : Option mi_V} (hS : ab_Sh sx_sk h) (ok_za : mi_in za) (ok_zp : mi_in zp) (ok_zn : mi_in zn) (ok_zq : mi_in zq) (ok_q7 : ∀ v, q7 = some v → mi_ok v) (ok_q8 : ∀ v, q8 = some v → mi_ok v) (ok_q9 : ∀ v, q9 = some v → mi_ok v) (ok_qa : ∀ v, qa = some v → mi_ok v) (ok_qb : ∀ v, qb = some v → mi_ok v) (ho : (((0 : Int)) ≤ zp) ∧ (((60 : Int)) ≤ zp) ∧ (((0 : Int)) ≤ zp) ∧ (((60 : Int)) ≤ zp) ∧ (((0 : Int)) ≠ ((5 : Int)))) (kon : ∀ h1, me_W [] h h1 → ∃ Q1, me_E (d + 4) 71 0 (mi_entry 3 [.inr (.inr 60), .inl (zp)]) [] h1 Q1 ∧ ∀ w h2, (∀ x, w = some x → mi_ok x) → Q1 w h2 → me_E (d + 5) 77 107 [some (.inr (.inr 78)), some (.inl (za)), some (.inr (.inl (zx))), none, some (.inl (zp)), some (.inl (zn)), some (.inl (zq)), some (.inr (.inl (zy))), none, some (.inr (.inl (zy))), none, qb] (mi_back w []) h2 Q) : me_E (d + 5) 77 50 [some (.inr (.inr 78)), some (.inl (za)), some (.inr (.inl (zx))), none, some (.inl (zp)), some (.inl (zn)), some (.inl (zq)), q7, q8, q9, qa, qb] [.inr (.inl (zy))] h Q := mf_seg (mp_siC_1 h d za zp zn zq zx zy q7 q8 q9 qa qb) (mi_tab_siC_1) hS (mi_okL_c (trivial) (mi_okL_c (ok_za) (mi_okL_c (trivial) (mi_okL_n (mi_okL_c (ok_zp) (mi_okL_c (ok_zn) (mi_okL_c (ok_zq) (mi_okL_o ok_q7 (mi_okL_o ok_q8 (mi_okL_o ok_q9 (mi_okL_o ok_qa (mi_okL_o ok_qb (mi_okL_e))))))))))))) (mi_okS_cons (trivial) (mi_okS_e)) (mi_al (ho.1) (mi_al (ho.2.1) (mi_al (ho.2.2.1) (mi_al (ho.2.2.2.1) (mi_al (ho.2.2.2.2) (mi_al_e)))))) (fun h1 W _ hst => let ⟨_, k1, k2⟩ := kon h1 W; mf_call (M := (12, 0, sb_77)) (M' := (3, 1, sb_71)) rfl rfl rfl rfl (Nat.le_of_ble_eq_true rfl) (Nat.le_of_ble_eq_true rfl) W.1 k1 k2)
set_option maxRecDepth 20000 in
theorem mp_siC_2 (h : sm_H) (d : Nat) (za zp zn zq : Int) (zx zy : Int64) (q7 q8 q9 qa qb : Option mi_V) : mj_path [(77, (12, 0, sb_77)), (16, (3, 0, sb_16)), (49, (2, 1, sb_49)), (66, (4, 0, sb_66)), (72, (2, 2, sb_72))] sx_sk h 40 [0, 0, 0, 0, 1] (d + 5, 77, 50, [some (.inr (.inr 78)), some (.inl (za)), some (.inr (.inl (zx))), none, some (.inl (zp)), some (.inl (zn)), some (.inl (zq)), q7, q8, q9, qa, qb], [.inr (.inl (zy))], [], []) = some ((d + 5, 77, 104, [some (.inr (.inr 78)), some (.inl (za)), some (.inr (.inl (zx))), none, some (.inl (zp)), some (.inl (zn)), some (.inl (zq)), some (.inr (.inl (zy))), none, some (.inr (.inl (zy))), none, qb], [.inl (zp), .inr (.inr 60)], [.inr (.inr (.inr (91, Int.toNat zp, zy)))], []), [((0 : Int)) ≤ zp, zp < ((60 : Int)), 0 ≤ zp ∧ zp < 60, ((0 : Int)) ≤ zp, zp < ((60 : Int)), 0 ≤ zp ∧ zp < 60, (mi_a h 72 (Int.toNat zp)) ≠ ((5 : Int))]) := rfl
theorem mi_tab_siC_2 : ∀ e ∈ ([(77, (12, 0, sb_77)), (16, (3, 0, sb_16)), (49, (2, 1, sb_49)), (66, (4, 0, sb_66)), (72, (2, 2, sb_72))] : mi_T), sc_P e.1 = some e.2 := mi_tb mi_P77 (mi_tb mi_P16 (mi_tb mi_P49 (mi_tb mi_P66 (mi_tb mi_P72 (mi_tb_e)))))
set_option maxRecDepth 20000 in
theorem ms_siC_2 {h : sm_H} {d : Nat} {Q : Option mi_V → sm_H → Prop} {za zp zn zq : Int} {zx zy : Int64} {q7 q8 q9 qa qb : Option mi_V} (hS : ab_Sh sx_sk h) (ok_za : mi_in za) (ok_zp : mi_in zp) (ok_zn : mi_in zn) (ok_zq : mi_in zq) (ok_q7 : ∀ v, q7 = some v → mi_ok v) (ok_q8 : ∀ v, q8 = some v → mi_ok v) (ok_q9 : ∀ v, q9 = some v → mi_ok v) (ok_qa : ∀ v, qa = some v → mi_ok v) (ok_qb : ∀ v, qb = some v → mi_ok v) (ho : (((0 : Int)) ≤ zp) ∧ (zp < ((60 : Int))) ∧ (0 ≤ zp ∧ zp < 60) ∧ (((0 : Int)) ≤ zp) ∧ (zp < ((60 : Int))) ∧ (0 ≤ zp ∧ zp < 60) ∧ ((mi_a h 72 (Int.toNat zp)) ≠ ((5 : Int)))) (kon : ∀ h1, me_W [.inr (.inr (.inr (91, Int.toNat zp, zy)))] h h1 → ∃ Q1, me_E (d + 4) 71 0 (mi_entry 3 [.inr (.inr 60), .inl (zp)]) [] h1 Q1 ∧ ∀ w h2, (∀ x, w = some x → mi_ok x) → Q1 w h2 → me_E (d + 5) 77 107 [some (.inr (.inr 78)), some (.inl (za)), some (.inr (.inl (zx))), none, some (.inl (zp)), some (.inl (zn)), some (.inl (zq)), some (.inr (.inl (zy))), none, some (.inr (.inl (zy))), none, qb] (mi_back w []) h2 Q) : me_E (d + 5) 77 50 [some (.inr (.inr 78)), some (.inl (za)), some (.inr (.inl (zx))), none, some (.inl (zp)), some (.inl (zn)), some (.inl (zq)), q7, q8, q9, qa, qb] [.inr (.inl (zy))] h Q := mf_seg (mp_siC_2 h d za zp zn zq zx zy q7 q8 q9 qa qb) (mi_tab_siC_2) hS (mi_okL_c (trivial) (mi_okL_c (ok_za) (mi_okL_c (trivial) (mi_okL_n (mi_okL_c (ok_zp) (mi_okL_c (ok_zn) (mi_okL_c (ok_zq) (mi_okL_o ok_q7 (mi_okL_o ok_q8 (mi_okL_o ok_q9 (mi_okL_o ok_qa (mi_okL_o ok_qb (mi_okL_e))))))))))))) (mi_okS_cons (trivial) (mi_okS_e)) (mi_al (ho.1) (mi_al (ho.2.1) (mi_al (ho.2.2.1) (mi_al (ho.2.2.2.1) (mi_al (ho.2.2.2.2.1) (mi_al (ho.2.2.2.2.2.1) (mi_al (ho.2.2.2.2.2.2) (mi_al_e)))))))) (fun h1 W _ hst => let ⟨_, k1, k2⟩ := kon h1 W; mf_call (M := (12, 0, sb_77)) (M' := (3, 1, sb_71)) rfl rfl rfl rfl (Nat.le_of_ble_eq_true rfl) (Nat.le_of_ble_eq_true rfl) W.1 k1 k2)
set_option maxRecDepth 20000 in
theorem mp_siC_3 (h : sm_H) (d : Nat) (za zp zn zq : Int) (zx zy : Int64) (q7 q8 q9 qa qb : Option mi_V) : mj_path [(77, (12, 0, sb_77)), (16, (3, 0, sb_16)), (49, (2, 1, sb_49)), (66, (4, 0, sb_66)), (72, (2, 2, sb_72))] sx_sk h 57 [0, 0, 0, 0, 0, 0, 0] (d + 5, 77, 50, [some (.inr (.inr 78)), some (.inl (za)), some (.inr (.inl (zx))), none, some (.inl (zp)), some (.inl (zn)), some (.inl (zq)), q7, q8, q9, qa, qb], [.inr (.inl (zy))], [], []) = some ((d + 5, 77, 104, [some (.inr (.inr 78)), some (.inl (za)), some (.inr (.inl (zx))), none, some (.inl (zp)), some (.inl (zn)), some (.inl (zq)), some (.inr (.inl (zy))), none, some (.inr (.inl (zy ||| (mx_b h 90 (Int.toNat zp))))), none, qb], [.inl (zp), .inr (.inr 60)], [.inr (.inr (.inr (91, Int.toNat zp, zy)))], []), [((0 : Int)) ≤ zp, zp < ((60 : Int)), 0 ≤ zp ∧ zp < 60, ((0 : Int)) ≤ zp, zp < ((60 : Int)), 0 ≤ zp ∧ zp < 60, (mi_a h 72 (Int.toNat zp)) = ((5 : Int)), ((0 : Int)) ≤ zp, zp < ((60 : Int)), 0 ≤ zp ∧ zp < 60]) := rfl
theorem mi_tab_siC_3 : ∀ e ∈ ([(77, (12, 0, sb_77)), (16, (3, 0, sb_16)), (49, (2, 1, sb_49)), (66, (4, 0, sb_66)), (72, (2, 2, sb_72))] : mi_T), sc_P e.1 = some e.2 := mi_tb mi_P77 (mi_tb mi_P16 (mi_tb mi_P49 (mi_tb mi_P66 (mi_tb mi_P72 (mi_tb_e)))))
set_option maxRecDepth 20000 in
theorem ms_siC_3 {h : sm_H} {d : Nat} {Q : Option mi_V → sm_H → Prop} {za zp zn zq : Int} {zx zy : Int64} {q7 q8 q9 qa qb : Option mi_V} (hS : ab_Sh sx_sk h) (ok_za : mi_in za) (ok_zp : mi_in zp) (ok_zn : mi_in zn) (ok_zq : mi_in zq) (ok_q7 : ∀ v, q7 = some v → mi_ok v) (ok_q8 : ∀ v, q8 = some v → mi_ok v) (ok_q9 : ∀ v, q9 = some v → mi_ok v) (ok_qa : ∀ v, qa = some v → mi_ok v) (ok_qb : ∀ v, qb = some v → mi_ok v) (ho : (((0 : Int)) ≤ zp) ∧ (zp < ((60 : Int))) ∧ (0 ≤ zp ∧ zp < 60) ∧ (((0 : Int)) ≤ zp) ∧ (zp < ((60 : Int))) ∧ (0 ≤ zp ∧ zp < 60) ∧ ((mi_a h 72 (Int.toNat zp)) = ((5 : Int))) ∧ (((0 : Int)) ≤ zp) ∧ (zp < ((60 : Int))) ∧ (0 ≤ zp ∧ zp < 60)) (kon : ∀ h1, me_W [.inr (.inr (.inr (91, Int.toNat zp, zy)))] h h1 → ∃ Q1, me_E (d + 4) 71 0 (mi_entry 3 [.inr (.inr 60), .inl (zp)]) [] h1 Q1 ∧ ∀ w h2, (∀ x, w = some x → mi_ok x) → Q1 w h2 → me_E (d + 5) 77 107 [some (.inr (.inr 78)), some (.inl (za)), some (.inr (.inl (zx))), none, some (.inl (zp)), some (.inl (zn)), some (.inl (zq)), some (.inr (.inl (zy))), none, some (.inr (.inl (zy ||| (mx_b h 90 (Int.toNat zp))))), none, qb] (mi_back w []) h2 Q) : me_E (d + 5) 77 50 [some (.inr (.inr 78)), some (.inl (za)), some (.inr (.inl (zx))), none, some (.inl (zp)), some (.inl (zn)), some (.inl (zq)), q7, q8, q9, qa, qb] [.inr (.inl (zy))] h Q := mf_seg (mp_siC_3 h d za zp zn zq zx zy q7 q8 q9 qa qb) (mi_tab_siC_3) hS (mi_okL_c (trivial) (mi_okL_c (ok_za) (mi_okL_c (trivial) (mi_okL_n (mi_okL_c (ok_zp) (mi_okL_c (ok_zn) (mi_okL_c (ok_zq) (mi_okL_o ok_q7 (mi_okL_o ok_q8 (mi_okL_o ok_q9 (mi_okL_o ok_qa (mi_okL_o ok_qb (mi_okL_e))))))))))))) (mi_okS_cons (trivial) (mi_okS_e)) (mi_al (ho.1) (mi_al (ho.2.1) (mi_al (ho.2.2.1) (mi_al (ho.2.2.2.1) (mi_al (ho.2.2.2.2.1) (mi_al (ho.2.2.2.2.2.1) (mi_al (ho.2.2.2.2.2.2.1) (mi_al (ho.2.2.2.2.2.2.2.1) (mi_al (ho.2.2.2.2.2.2.2.2.1) (mi_al (ho.2.2.2.2.2.2.2.2.2) (mi_al_e))))))))))) (fun h1 W _ hst => let ⟨_, k1, k2⟩ := kon h1 W; mf_call (M := (12, 0, sb_77)) (M' := (3, 1, sb_71)) rfl rfl rfl rfl (Nat.le_of_ble_eq_true rfl) (Nat.le_of_ble_eq_true rfl) W.1 k1 k2)
set_option maxRecDepth 20000 in
theorem mt_siC {h : sm_H} {d : Nat} {Q : Option mi_V → sm_H → Prop} {za zp zn zq : Int} {zx zy : Int64} {q7 q8 q9 qa qb : Option mi_V} (hS : ab_Sh sx_sk h) (ok_za : mi_in za) (ok_zp : mi_in zp) (ok_zn : mi_in zn) (ok_zq : mi_in zq) (ok_q7 : ∀ v, q7 = some v → mi_ok v) (ok_q8 : ∀ v, q8 = some v → mi_ok v) (ok_q9 : ∀ v, q9 = some v → mi_ok v) (ok_qa : ∀ v, qa = some v → mi_ok v) (ok_qb : ∀ v, qb = some v → mi_ok v) (k0 : (zp < ((0 : Int))) → (∀ h1, ab_Sh sx_sk h1 → ab_Fr [] h h1 → ∃ Q1, me_E (d + 4) 71 0 (mi_entry 3 [.inr (.inr 60), .inl (zp)]) [] h1 Q1 ∧ ∀ w h2, (∀ x, w = some x → mi_ok x) → Q1 w h2 → me_E (d + 5) 77 107 [some (.inr (.inr 78)), some (.inl (za)), some (.inr (.inl (zx))), none, some (.inl (zp)), some (.inl (zn)), some (.inl (zq)), some (.inr (.inl (zy))), none, some (.inr (.inl (zy))), none, qb] (mi_back w []) h2 Q)) (k1 : (((0 : Int)) ≤ zp) → (((60 : Int)) ≤ zp) → (∀ h1, ab_Sh sx_sk h1 → ab_Fr [] h h1 → ∃ Q1, me_E (d + 4) 71 0 (mi_entry 3 [.inr (.inr 60), .inl (zp)]) [] h1 Q1 ∧ ∀ w h2, (∀ x, w = some x → mi_ok x) → Q1 w h2 → me_E (d + 5) 77 107 [some (.inr (.inr 78)), some (.inl (za)), some (.inr (.inl (zx))), none, some (.inl (zp)), some (.inl (zn)), some (.inl (zq)), some (.inr (.inl (zy))), none, some (.inr (.inl (zy))), none, qb] (mi_back w []) h2 Q)) (k2 : (((0 : Int)) ≤ zp) → (zp < ((60 : Int))) → ((mi_a h 72 (Int.toNat zp)) ≠ ((5 : Int))) → ((0 ≤ zp ∧ zp < 60)) ∧ (∀ h1, ab_Sh sx_sk h1 → (∀ i, mx_b h1 91 i = if i = Int.toNat zp then zy else (mx_b h 91 i)) → ab_Fr [(11648, 11649)] h h1 → ∃ Q1, me_E (d + 4) 71 0 (mi_entry 3 [.inr (.inr 60), .inl (zp)]) [] h1 Q1 ∧ ∀ w h2, (∀ x, w = some x → mi_ok x) → Q1 w h2 → me_E (d + 5) 77 107 [some (.inr (.inr 78)), some (.inl (za)), some (.inr (.inl (zx))), none, some (.inl (zp)), some (.inl (zn)), some (.inl (zq)), some (.inr (.inl (zy))), none, some (.inr (.inl (zy))), none, qb] (mi_back w []) h2 Q)) (k3 : (((0 : Int)) ≤ zp) → (zp < ((60 : Int))) → ((mi_a h 72 (Int.toNat zp)) = ((5 : Int))) → ((0 ≤ zp ∧ zp < 60)) ∧ (∀ h1, ab_Sh sx_sk h1 → (∀ i, mx_b h1 91 i = if i = Int.toNat zp then zy else (mx_b h 91 i)) → ab_Fr [(11648, 11649)] h h1 → ∃ Q1, me_E (d + 4) 71 0 (mi_entry 3 [.inr (.inr 60), .inl (zp)]) [] h1 Q1 ∧ ∀ w h2, (∀ x, w = some x → mi_ok x) → Q1 w h2 → me_E (d + 5) 77 107 [some (.inr (.inr 78)), some (.inl (za)), some (.inr (.inl (zx))), none, some (.inl (zp)), some (.inl (zn)), some (.inl (zq)), some (.inr (.inl (zy))), none, some (.inr (.inl (zy ||| (mx_b h 90 (Int.toNat zp))))), none, qb] (mi_back w []) h2 Q)) : me_E (d + 5) 77 50 [some (.inr (.inr 78)), some (.inl (za)), some (.inr (.inl (zx))), none, some (.inl (zp)), some (.inl (zn)), some (.inl (zq)), q7, q8, q9, qa, qb] [.inr (.inl (zy))] h Q := Or.elim (mi_em .lt (zp) (((0 : Int)))) (fun c0 => ms_siC_0 hS ok_za ok_zp ok_zn ok_zq ok_q7 ok_q8 ok_q9 ok_qa ok_qb ⟨c0, c0, (by decide)⟩ (fun h1 W => (k0 c0) h1 W.1 (W.2.2.2.2.2 _ rfl))) (fun c0 => Or.elim (mi_em .ge (zp) (((60 : Int)))) (fun c1 => ms_siC_1 hS ok_za ok_zp ok_zn ok_zq ok_q7 ok_q8 ok_q9 ok_qa ok_qb ⟨c0, c1, c0, c1, (by decide)⟩ (fun h1 W => (k1 c0 c1) h1 W.1 (W.2.2.2.2.2 _ rfl))) (fun c1 => Or.elim (mi_em .ne ((mi_a h 72 (Int.toNat zp))) (((5 : Int)))) (fun c2 => ms_siC_2 hS ok_za ok_zp ok_zn ok_zq ok_q7 ok_q8 ok_q9 ok_qa ok_qb ⟨c0, c1, (k2 c0 c1 c2).1, c0, c1, (k2 c0 c1 c2).1, c2⟩ (fun h1 W => (k2 c0 c1 c2).2 h1 W.1 (fun i => W.2.2.2.2.1 91 i) (W.2.2.2.2.2 _ rfl))) (fun c2 => ms_siC_3 hS ok_za ok_zp ok_zn ok_zq ok_q7 ok_q8 ok_q9 ok_qa ok_qb ⟨c0, c1, (k3 c0 c1 c2).1, c0, c1, (k3 c0 c1 c2).1, c2, c0, c1, (k3 c0 c1 c2).1⟩ (fun h1 W => (k3 c0 c1 c2).2 h1 W.1 (fun i => W.2.2.2.2.1 91 i) (W.2.2.2.2.2 _ rfl)))))
set_option maxRecDepth 20000 in
theorem mp_siD_0 (h : sm_H) (d : Nat) (za zp zn zq zz : Int) (zx zy zw : Int64) (qb : Option mi_V) : mj_path [(77, (12, 0, sb_77)), (16, (3, 0, sb_16)), (49, (2, 1, sb_49)), (66, (4, 0, sb_66)), (72, (2, 2, sb_72))] sx_sk h 8 [1] (d + 5, 77, 107, [some (.inr (.inr 78)), some (.inl (za)), some (.inr (.inl (zx))), none, some (.inl (zp)), some (.inl (zn)), some (.inl (zq)), some (.inr (.inl (zy))), none, some (.inr (.inl (zw))), none, qb], [.inl (zz)], [], []) = some ((d + 5, 77, 16, [some (.inr (.inr 78)), some (.inl (za)), some (.inr (.inl (zx))), none, some (.inl (zq)), some (.inl (zn + 1)), some (.inl (zq)), some (.inr (.inl (zy))), none, some (.inr (.inl (zw))), none, some (.inl (zz))], [], [], []), [zz = ((-1 : Int)), -2147483648 ≤ zn + 1 ∧ zn + 1 ≤ 2147483647]) := rfl
theorem mi_tab_siD_0 : ∀ e ∈ ([(77, (12, 0, sb_77)), (16, (3, 0, sb_16)), (49, (2, 1, sb_49)), (66, (4, 0, sb_66)), (72, (2, 2, sb_72))] : mi_T), sc_P e.1 = some e.2 := mi_tb mi_P77 (mi_tb mi_P16 (mi_tb mi_P49 (mi_tb mi_P66 (mi_tb mi_P72 (mi_tb_e)))))
set_option maxRecDepth 20000 in
theorem ms_siD_0 {h : sm_H} {d : Nat} {Q : Option mi_V → sm_H → Prop} {za zp zn zq zz : Int} {zx zy zw : Int64} {qb : Option mi_V} (hS : ab_Sh sx_sk h) (ok_za : mi_in za) (ok_zp : mi_in zp) (ok_zn : mi_in zn) (ok_zq : mi_in zq) (ok_zz : mi_in zz) (ok_qb : ∀ v, qb = some v → mi_ok v) (ho : (zz = ((-1 : Int))) ∧ (-2147483648 ≤ zn + 1 ∧ zn + 1 ≤ 2147483647)) (kon : ∀ h1, me_W [] h h1 → me_E (d + 5) 77 16 [some (.inr (.inr 78)), some (.inl (za)), some (.inr (.inl (zx))), none, some (.inl (zq)), some (.inl (zn + 1)), some (.inl (zq)), some (.inr (.inl (zy))), none, some (.inr (.inl (zw))), none, some (.inl (zz))] [] h1 Q) : me_E (d + 5) 77 107 [some (.inr (.inr 78)), some (.inl (za)), some (.inr (.inl (zx))), none, some (.inl (zp)), some (.inl (zn)), some (.inl (zq)), some (.inr (.inl (zy))), none, some (.inr (.inl (zw))), none, qb] [.inl (zz)] h Q := mf_seg (mp_siD_0 h d za zp zn zq zz zx zy zw qb) (mi_tab_siD_0) hS (mi_okL_c (trivial) (mi_okL_c (ok_za) (mi_okL_c (trivial) (mi_okL_n (mi_okL_c (ok_zp) (mi_okL_c (ok_zn) (mi_okL_c (ok_zq) (mi_okL_c (trivial) (mi_okL_n (mi_okL_c (trivial) (mi_okL_n (mi_okL_o ok_qb (mi_okL_e))))))))))))) (mi_okS_cons (ok_zz) (mi_okS_e)) (mi_al (ho.1) (mi_al (ho.2) (mi_al_e))) (fun h1 W _ hst => kon h1 W)
set_option maxRecDepth 20000 in
theorem mp_siD_1 (h : sm_H) (d : Nat) (za zp zn zq zz : Int) (zx zy zw : Int64) (qb : Option mi_V) : mj_path [(77, (12, 0, sb_77)), (16, (3, 0, sb_16)), (49, (2, 1, sb_49)), (66, (4, 0, sb_66)), (72, (2, 2, sb_72))] sx_sk h 23 [0, 1, 1] (d + 5, 77, 107, [some (.inr (.inr 78)), some (.inl (za)), some (.inr (.inl (zx))), none, some (.inl (zp)), some (.inl (zn)), some (.inl (zq)), some (.inr (.inl (zy))), none, some (.inr (.inl (zw))), none, qb], [.inl (zz)], [], []) = some ((d + 5, 77, 16, [some (.inr (.inr 78)), some (.inl (za)), some (.inr (.inl (zx))), none, some (.inl (zq)), some (.inl (zn + 1)), some (.inl (zq)), some (.inr (.inl (zy))), none, some (.inr (.inl (zw))), none, some (.inl (zz))], [], [], []), [zz ≠ ((-1 : Int)), zz < ((0 : Int)), ((lg_cmp (zw &&& ((Int64.ofNat 0) ^^^ (Int64.ofNat 18446744073709551615))) (Int64.ofNat 0)).toInt) = ((0 : Int)), -2147483648 ≤ zn + 1 ∧ zn + 1 ≤ 2147483647]) := rfl
theorem mi_tab_siD_1 : ∀ e ∈ ([(77, (12, 0, sb_77)), (16, (3, 0, sb_16)), (49, (2, 1, sb_49)), (66, (4, 0, sb_66)), (72, (2, 2, sb_72))] : mi_T), sc_P e.1 = some e.2 := mi_tb mi_P77 (mi_tb mi_P16 (mi_tb mi_P49 (mi_tb mi_P66 (mi_tb mi_P72 (mi_tb_e)))))
set_option maxRecDepth 20000 in
theorem ms_siD_1 {h : sm_H} {d : Nat} {Q : Option mi_V → sm_H → Prop} {za zp zn zq zz : Int} {zx zy zw : Int64} {qb : Option mi_V} (hS : ab_Sh sx_sk h) (ok_za : mi_in za) (ok_zp : mi_in zp) (ok_zn : mi_in zn) (ok_zq : mi_in zq) (ok_zz : mi_in zz) (ok_qb : ∀ v, qb = some v → mi_ok v) (ho : (zz ≠ ((-1 : Int))) ∧ (zz < ((0 : Int))) ∧ (((lg_cmp (zw &&& ((Int64.ofNat 0) ^^^ (Int64.ofNat 18446744073709551615))) (Int64.ofNat 0)).toInt) = ((0 : Int))) ∧ (-2147483648 ≤ zn + 1 ∧ zn + 1 ≤ 2147483647)) (kon : ∀ h1, me_W [] h h1 → me_E (d + 5) 77 16 [some (.inr (.inr 78)), some (.inl (za)), some (.inr (.inl (zx))), none, some (.inl (zq)), some (.inl (zn + 1)), some (.inl (zq)), some (.inr (.inl (zy))), none, some (.inr (.inl (zw))), none, some (.inl (zz))] [] h1 Q) : me_E (d + 5) 77 107 [some (.inr (.inr 78)), some (.inl (za)), some (.inr (.inl (zx))), none, some (.inl (zp)), some (.inl (zn)), some (.inl (zq)), some (.inr (.inl (zy))), none, some (.inr (.inl (zw))), none, qb] [.inl (zz)] h Q := mf_seg (mp_siD_1 h d za zp zn zq zz zx zy zw qb) (mi_tab_siD_1) hS (mi_okL_c (trivial) (mi_okL_c (ok_za) (mi_okL_c (trivial) (mi_okL_n (mi_okL_c (ok_zp) (mi_okL_c (ok_zn) (mi_okL_c (ok_zq) (mi_okL_c (trivial) (mi_okL_n (mi_okL_c (trivial) (mi_okL_n (mi_okL_o ok_qb (mi_okL_e))))))))))))) (mi_okS_cons (ok_zz) (mi_okS_e)) (mi_al (ho.1) (mi_al (ho.2.1) (mi_al (ho.2.2.1) (mi_al (ho.2.2.2) (mi_al_e))))) (fun h1 W _ hst => kon h1 W)
set_option maxRecDepth 20000 in
theorem mp_siD_2 (h : sm_H) (d : Nat) (za zp zn zq zz : Int) (zx zy zw : Int64) (qb : Option mi_V) : mj_path [(77, (12, 0, sb_77)), (16, (3, 0, sb_16)), (49, (2, 1, sb_49)), (66, (4, 0, sb_66)), (72, (2, 2, sb_72))] sx_sk h 43 [0, 1, 0, 1, 1] (d + 5, 77, 107, [some (.inr (.inr 78)), some (.inl (za)), some (.inr (.inl (zx))), none, some (.inl (zp)), some (.inl (zn)), some (.inl (zq)), some (.inr (.inl (zy))), none, some (.inr (.inl (zw))), none, qb], [.inl (zz)], [], []) = some ((d + 5, 77, 16, [some (.inr (.inr 78)), some (.inl (za)), some (.inr (.inl (zx))), none, some (.inl (zq)), some (.inl (zn + 1)), some (.inl (zq)), some (.inr (.inl (zy))), none, some (.inr (.inl (zw))), none, some (.inl (zz))], [], [.inl (9999, (1 : Int))], []), [zz ≠ ((-1 : Int)), zz < ((0 : Int)), ((lg_cmp (zw &&& ((Int64.ofNat 0) ^^^ (Int64.ofNat 18446744073709551615))) (Int64.ofNat 0)).toInt) ≠ ((0 : Int)), zz < ((0 : Int)), zz < ((0 : Int)), 0 ≤ ((1 : Int)) ∧ ((1 : Int)) ≤ 1, 0 ≤ ((1 : Int)) ∧ ((1 : Int)) ≤ 1, -2147483648 ≤ zn + 1 ∧ zn + 1 ≤ 2147483647]) := rfl
theorem mi_tab_siD_2 : ∀ e ∈ ([(77, (12, 0, sb_77)), (16, (3, 0, sb_16)), (49, (2, 1, sb_49)), (66, (4, 0, sb_66)), (72, (2, 2, sb_72))] : mi_T), sc_P e.1 = some e.2 := mi_tb mi_P77 (mi_tb mi_P16 (mi_tb mi_P49 (mi_tb mi_P66 (mi_tb mi_P72 (mi_tb_e)))))
set_option maxRecDepth 20000 in
theorem ms_siD_2 {h : sm_H} {d : Nat} {Q : Option mi_V → sm_H → Prop} {za zp zn zq zz : Int} {zx zy zw : Int64} {qb : Option mi_V} (hS : ab_Sh sx_sk h) (ok_za : mi_in za) (ok_zp : mi_in zp) (ok_zn : mi_in zn) (ok_zq : mi_in zq) (ok_zz : mi_in zz) (ok_qb : ∀ v, qb = some v → mi_ok v) (ho : (zz ≠ ((-1 : Int))) ∧ (zz < ((0 : Int))) ∧ (((lg_cmp (zw &&& ((Int64.ofNat 0) ^^^ (Int64.ofNat 18446744073709551615))) (Int64.ofNat 0)).toInt) ≠ ((0 : Int))) ∧ (zz < ((0 : Int))) ∧ (zz < ((0 : Int))) ∧ (0 ≤ ((1 : Int)) ∧ ((1 : Int)) ≤ 1) ∧ (0 ≤ ((1 : Int)) ∧ ((1 : Int)) ≤ 1) ∧ (-2147483648 ≤ zn + 1 ∧ zn + 1 ≤ 2147483647)) (kon : ∀ h1, me_W [.inl (9999, (1 : Int))] h h1 → me_E (d + 5) 77 16 [some (.inr (.inr 78)), some (.inl (za)), some (.inr (.inl (zx))), none, some (.inl (zq)), some (.inl (zn + 1)), some (.inl (zq)), some (.inr (.inl (zy))), none, some (.inr (.inl (zw))), none, some (.inl (zz))] [] h1 Q) : me_E (d + 5) 77 107 [some (.inr (.inr 78)), some (.inl (za)), some (.inr (.inl (zx))), none, some (.inl (zp)), some (.inl (zn)), some (.inl (zq)), some (.inr (.inl (zy))), none, some (.inr (.inl (zw))), none, qb] [.inl (zz)] h Q := mf_seg (mp_siD_2 h d za zp zn zq zz zx zy zw qb) (mi_tab_siD_2) hS (mi_okL_c (trivial) (mi_okL_c (ok_za) (mi_okL_c (trivial) (mi_okL_n (mi_okL_c (ok_zp) (mi_okL_c (ok_zn) (mi_okL_c (ok_zq) (mi_okL_c (trivial) (mi_okL_n (mi_okL_c (trivial) (mi_okL_n (mi_okL_o ok_qb (mi_okL_e))))))))))))) (mi_okS_cons (ok_zz) (mi_okS_e)) (mi_al (ho.1) (mi_al (ho.2.1) (mi_al (ho.2.2.1) (mi_al (ho.2.2.2.1) (mi_al (ho.2.2.2.2.1) (mi_al (ho.2.2.2.2.2.1) (mi_al (ho.2.2.2.2.2.2.1) (mi_al (ho.2.2.2.2.2.2.2) (mi_al_e))))))))) (fun h1 W _ hst => kon h1 W)
set_option maxRecDepth 20000 in
theorem mp_siD_3 (h : sm_H) (d : Nat) (za zp zn zq zz : Int) (zx zy zw : Int64) (qb : Option mi_V) : mj_path [(77, (12, 0, sb_77)), (16, (3, 0, sb_16)), (49, (2, 1, sb_49)), (66, (4, 0, sb_66)), (72, (2, 2, sb_72))] sx_sk h 27 [0, 0, 1, 1] (d + 5, 77, 107, [some (.inr (.inr 78)), some (.inl (za)), some (.inr (.inl (zx))), none, some (.inl (zp)), some (.inl (zn)), some (.inl (zq)), some (.inr (.inl (zy))), none, some (.inr (.inl (zw))), none, qb], [.inl (zz)], [], []) = some ((d + 5, 77, 16, [some (.inr (.inr 78)), some (.inl (za)), some (.inr (.inl (zx))), none, some (.inl (zq)), some (.inl (zn + 1)), some (.inl (zq)), some (.inr (.inl (zy))), none, some (.inr (.inl (zw))), none, some (.inl (zz))], [], [], []), [zz ≠ ((-1 : Int)), ((0 : Int)) ≤ zz, ((70 : Int)) ≤ zz, ((lg_cmp (zw &&& ((Int64.ofNat 0) ^^^ (Int64.ofNat 18446744073709551615))) (Int64.ofNat 0)).toInt) = ((0 : Int)), -2147483648 ≤ zn + 1 ∧ zn + 1 ≤ 2147483647]) := rfl
theorem mi_tab_siD_3 : ∀ e ∈ ([(77, (12, 0, sb_77)), (16, (3, 0, sb_16)), (49, (2, 1, sb_49)), (66, (4, 0, sb_66)), (72, (2, 2, sb_72))] : mi_T), sc_P e.1 = some e.2 := mi_tb mi_P77 (mi_tb mi_P16 (mi_tb mi_P49 (mi_tb mi_P66 (mi_tb mi_P72 (mi_tb_e)))))
set_option maxRecDepth 20000 in
theorem ms_siD_3 {h : sm_H} {d : Nat} {Q : Option mi_V → sm_H → Prop} {za zp zn zq zz : Int} {zx zy zw : Int64} {qb : Option mi_V} (hS : ab_Sh sx_sk h) (ok_za : mi_in za) (ok_zp : mi_in zp) (ok_zn : mi_in zn) (ok_zq : mi_in zq) (ok_zz : mi_in zz) (ok_qb : ∀ v, qb = some v → mi_ok v) (ho : (zz ≠ ((-1 : Int))) ∧ (((0 : Int)) ≤ zz) ∧ (((70 : Int)) ≤ zz) ∧ (((lg_cmp (zw &&& ((Int64.ofNat 0) ^^^ (Int64.ofNat 18446744073709551615))) (Int64.ofNat 0)).toInt) = ((0 : Int))) ∧ (-2147483648 ≤ zn + 1 ∧ zn + 1 ≤ 2147483647)) (kon : ∀ h1, me_W [] h h1 → me_E (d + 5) 77 16 [some (.inr (.inr 78)), some (.inl (za)), some (.inr (.inl (zx))), none, some (.inl (zq)), some (.inl (zn + 1)), some (.inl (zq)), some (.inr (.inl (zy))), none, some (.inr (.inl (zw))), none, some (.inl (zz))] [] h1 Q) : me_E (d + 5) 77 107 [some (.inr (.inr 78)), some (.inl (za)), some (.inr (.inl (zx))), none, some (.inl (zp)), some (.inl (zn)), some (.inl (zq)), some (.inr (.inl (zy))), none, some (.inr (.inl (zw))), none, qb] [.inl (zz)] h Q := mf_seg (mp_siD_3 h d za zp zn zq zz zx zy zw qb) (mi_tab_siD_3) hS (mi_okL_c (trivial) (mi_okL_c (ok_za) (mi_okL_c (trivial) (mi_okL_n (mi_okL_c (ok_zp) (mi_okL_c (ok_zn) (mi_okL_c (ok_zq) (mi_okL_c (trivial) (mi_okL_n (mi_okL_c (trivial) (mi_okL_n (mi_okL_o ok_qb (mi_okL_e))))))))))))) (mi_okS_cons (ok_zz) (mi_okS_e)) (mi_al (ho.1) (mi_al (ho.2.1) (mi_al (ho.2.2.1) (mi_al (ho.2.2.2.1) (mi_al (ho.2.2.2.2) (mi_al_e)))))) (fun h1 W _ hst => kon h1 W)
set_option maxRecDepth 20000 in
theorem mp_siD_4 (h : sm_H) (d : Nat) (za zp zn zq zz : Int) (zx zy zw : Int64) (qb : Option mi_V) : mj_path [(77, (12, 0, sb_77)), (16, (3, 0, sb_16)), (49, (2, 1, sb_49)), (66, (4, 0, sb_66)), (72, (2, 2, sb_72))] sx_sk h 55 [0, 0, 1, 0, 0, 1, 0, 1] (d + 5, 77, 107, [some (.inr (.inr 78)), some (.inl (za)), some (.inr (.inl (zx))), none, some (.inl (zp)), some (.inl (zn)), some (.inl (zq)), some (.inr (.inl (zy))), none, some (.inr (.inl (zw))), none, qb], [.inl (zz)], [], []) = some ((d + 5, 77, 16, [some (.inr (.inr 78)), some (.inl (za)), some (.inr (.inl (zx))), none, some (.inl (zq)), some (.inl (zn + 1)), some (.inl (zq)), some (.inr (.inl (zy))), none, some (.inr (.inl (zw))), none, some (.inl (zz))], [], [.inl (9999, (1 : Int))], []), [zz ≠ ((-1 : Int)), ((0 : Int)) ≤ zz, ((70 : Int)) ≤ zz, ((lg_cmp (zw &&& ((Int64.ofNat 0) ^^^ (Int64.ofNat 18446744073709551615))) (Int64.ofNat 0)).toInt) ≠ ((0 : Int)), ((0 : Int)) ≤ zz, ((70 : Int)) ≤ zz, ((0 : Int)) ≤ zz, ((70 : Int)) ≤ zz, 0 ≤ ((1 : Int)) ∧ ((1 : Int)) ≤ 1, 0 ≤ ((1 : Int)) ∧ ((1 : Int)) ≤ 1, -2147483648 ≤ zn + 1 ∧ zn + 1 ≤ 2147483647]) := rfl
theorem mi_tab_siD_4 : ∀ e ∈ ([(77, (12, 0, sb_77)), (16, (3, 0, sb_16)), (49, (2, 1, sb_49)), (66, (4, 0, sb_66)), (72, (2, 2, sb_72))] : mi_T), sc_P e.1 = some e.2 := mi_tb mi_P77 (mi_tb mi_P16 (mi_tb mi_P49 (mi_tb mi_P66 (mi_tb mi_P72 (mi_tb_e)))))
set_option maxRecDepth 20000 in
theorem ms_siD_4 {h : sm_H} {d : Nat} {Q : Option mi_V → sm_H → Prop} {za zp zn zq zz : Int} {zx zy zw : Int64} {qb : Option mi_V} (hS : ab_Sh sx_sk h) (ok_za : mi_in za) (ok_zp : mi_in zp) (ok_zn : mi_in zn) (ok_zq : mi_in zq) (ok_zz : mi_in zz) (ok_qb : ∀ v, qb = some v → mi_ok v) (ho : (zz ≠ ((-1 : Int))) ∧ (((0 : Int)) ≤ zz) ∧ (((70 : Int)) ≤ zz) ∧ (((lg_cmp (zw &&& ((Int64.ofNat 0) ^^^ (Int64.ofNat 18446744073709551615))) (Int64.ofNat 0)).toInt) ≠ ((0 : Int))) ∧ (((0 : Int)) ≤ zz) ∧ (((70 : Int)) ≤ zz) ∧ (((0 : Int)) ≤ zz) ∧ (((70 : Int)) ≤ zz) ∧ (0 ≤ ((1 : Int)) ∧ ((1 : Int)) ≤ 1) ∧ (0 ≤ ((1 : Int)) ∧ ((1 : Int)) ≤ 1) ∧ (-2147483648 ≤ zn + 1 ∧ zn + 1 ≤ 2147483647)) (kon : ∀ h1, me_W [.inl (9999, (1 : Int))] h h1 → me_E (d + 5) 77 16 [some (.inr (.inr 78)), some (.inl (za)), some (.inr (.inl (zx))), none, some (.inl (zq)), some (.inl (zn + 1)), some (.inl (zq)), some (.inr (.inl (zy))), none, some (.inr (.inl (zw))), none, some (.inl (zz))] [] h1 Q) : me_E (d + 5) 77 107 [some (.inr (.inr 78)), some (.inl (za)), some (.inr (.inl (zx))), none, some (.inl (zp)), some (.inl (zn)), some (.inl (zq)), some (.inr (.inl (zy))), none, some (.inr (.inl (zw))), none, qb] [.inl (zz)] h Q := mf_seg (mp_siD_4 h d za zp zn zq zz zx zy zw qb) (mi_tab_siD_4) hS (mi_okL_c (trivial) (mi_okL_c (ok_za) (mi_okL_c (trivial) (mi_okL_n (mi_okL_c (ok_zp) (mi_okL_c (ok_zn) (mi_okL_c (ok_zq) (mi_okL_c (trivial) (mi_okL_n (mi_okL_c (trivial) (mi_okL_n (mi_okL_o ok_qb (mi_okL_e))))))))))))) (mi_okS_cons (ok_zz) (mi_okS_e)) (mi_al (ho.1) (mi_al (ho.2.1) (mi_al (ho.2.2.1) (mi_al (ho.2.2.2.1) (mi_al (ho.2.2.2.2.1) (mi_al (ho.2.2.2.2.2.1) (mi_al (ho.2.2.2.2.2.2.1) (mi_al (ho.2.2.2.2.2.2.2.1) (mi_al (ho.2.2.2.2.2.2.2.2.1) (mi_al (ho.2.2.2.2.2.2.2.2.2.1) (mi_al (ho.2.2.2.2.2.2.2.2.2.2) (mi_al_e)))))))))))) (fun h1 W _ hst => kon h1 W)
set_option maxRecDepth 20000 in
theorem mp_siD_5 (h : sm_H) (d : Nat) (za zp zn zq zz : Int) (zx zy zw : Int64) (qb : Option mi_V) : mj_path [(77, (12, 0, sb_77)), (16, (3, 0, sb_16)), (49, (2, 1, sb_49)), (66, (4, 0, sb_66)), (72, (2, 2, sb_72))] sx_sk h 30 [0, 0, 0, 1] (d + 5, 77, 107, [some (.inr (.inr 78)), some (.inl (za)), some (.inr (.inl (zx))), none, some (.inl (zp)), some (.inl (zn)), some (.inl (zq)), some (.inr (.inl (zy))), none, some (.inr (.inl (zw))), none, qb], [.inl (zz)], [], []) = some ((d + 5, 77, 16, [some (.inr (.inr 78)), some (.inl (za)), some (.inr (.inl (zx))), none, some (.inl (zq)), some (.inl (zn + 1)), some (.inl (zq)), some (.inr (.inl (zy))), none, some (.inr (.inl (zw))), none, some (.inl (zz))], [], [], []), [zz ≠ ((-1 : Int)), ((0 : Int)) ≤ zz, zz < ((70 : Int)), 0 ≤ zz ∧ zz < 70, ((lg_cmp (zw &&& ((mx_b h 81 (Int.toNat zz)) ^^^ (Int64.ofNat 18446744073709551615))) (Int64.ofNat 0)).toInt) = ((0 : Int)), -2147483648 ≤ zn + 1 ∧ zn + 1 ≤ 2147483647]) := rfl
theorem mi_tab_siD_5 : ∀ e ∈ ([(77, (12, 0, sb_77)), (16, (3, 0, sb_16)), (49, (2, 1, sb_49)), (66, (4, 0, sb_66)), (72, (2, 2, sb_72))] : mi_T), sc_P e.1 = some e.2 := mi_tb mi_P77 (mi_tb mi_P16 (mi_tb mi_P49 (mi_tb mi_P66 (mi_tb mi_P72 (mi_tb_e)))))
set_option maxRecDepth 20000 in
theorem ms_siD_5 {h : sm_H} {d : Nat} {Q : Option mi_V → sm_H → Prop} {za zp zn zq zz : Int} {zx zy zw : Int64} {qb : Option mi_V} (hS : ab_Sh sx_sk h) (ok_za : mi_in za) (ok_zp : mi_in zp) (ok_zn : mi_in zn) (ok_zq : mi_in zq) (ok_zz : mi_in zz) (ok_qb : ∀ v, qb = some v → mi_ok v) (ho : (zz ≠ ((-1 : Int))) ∧ (((0 : Int)) ≤ zz) ∧ (zz < ((70 : Int))) ∧ (0 ≤ zz ∧ zz < 70) ∧ (((lg_cmp (zw &&& ((mx_b h 81 (Int.toNat zz)) ^^^ (Int64.ofNat 18446744073709551615))) (Int64.ofNat 0)).toInt) = ((0 : Int))) ∧ (-2147483648 ≤ zn + 1 ∧ zn + 1 ≤ 2147483647)) (kon : ∀ h1, me_W [] h h1 → me_E (d + 5) 77 16 [some (.inr (.inr 78)), some (.inl (za)), some (.inr (.inl (zx))), none, some (.inl (zq)), some (.inl (zn + 1)), some (.inl (zq)), some (.inr (.inl (zy))), none, some (.inr (.inl (zw))), none, some (.inl (zz))] [] h1 Q) : me_E (d + 5) 77 107 [some (.inr (.inr 78)), some (.inl (za)), some (.inr (.inl (zx))), none, some (.inl (zp)), some (.inl (zn)), some (.inl (zq)), some (.inr (.inl (zy))), none, some (.inr (.inl (zw))), none, qb] [.inl (zz)] h Q := mf_seg (mp_siD_5 h d za zp zn zq zz zx zy zw qb) (mi_tab_siD_5) hS (mi_okL_c (trivial) (mi_okL_c (ok_za) (mi_okL_c (trivial) (mi_okL_n (mi_okL_c (ok_zp) (mi_okL_c (ok_zn) (mi_okL_c (ok_zq) (mi_okL_c (trivial) (mi_okL_n (mi_okL_c (trivial) (mi_okL_n (mi_okL_o ok_qb (mi_okL_e))))))))))))) (mi_okS_cons (ok_zz) (mi_okS_e)) (mi_al (ho.1) (mi_al (ho.2.1) (mi_al (ho.2.2.1) (mi_al (ho.2.2.2.1) (mi_al (ho.2.2.2.2.1) (mi_al (ho.2.2.2.2.2) (mi_al_e))))))) (fun h1 W _ hst => kon h1 W)
set_option maxRecDepth 20000 in
theorem mp_siD_6 (h : sm_H) (d : Nat) (za zp zn zq zz : Int) (zx zy zw : Int64) (qb : Option mi_V) : mj_path [(77, (12, 0, sb_77)), (16, (3, 0, sb_16)), (49, (2, 1, sb_49)), (66, (4, 0, sb_66)), (72, (2, 2, sb_72))] sx_sk h 65 [0, 0, 0, 0, 0, 0, 0, 0] (d + 5, 77, 107, [some (.inr (.inr 78)), some (.inl (za)), some (.inr (.inl (zx))), none, some (.inl (zp)), some (.inl (zn)), some (.inl (zq)), some (.inr (.inl (zy))), none, some (.inr (.inl (zw))), none, qb], [.inl (zz)], [], []) = some ((d + 5, 77, 16, [some (.inr (.inr 78)), some (.inl (za)), some (.inr (.inl (zx))), none, some (.inl (zq)), some (.inl (zn + 1)), some (.inl (zq)), some (.inr (.inl (zy))), none, some (.inr (.inl (zw))), none, some (.inl (zz))], [], [.inl (9999, (1 : Int)), .inr (.inr (.inr (81, Int.toNat zz, (mx_b h 81 (Int.toNat zz)) ||| zw)))], []), [zz ≠ ((-1 : Int)), ((0 : Int)) ≤ zz, zz < ((70 : Int)), 0 ≤ zz ∧ zz < 70, ((lg_cmp (zw &&& ((mx_b h 81 (Int.toNat zz)) ^^^ (Int64.ofNat 18446744073709551615))) (Int64.ofNat 0)).toInt) ≠ ((0 : Int)), ((0 : Int)) ≤ zz, zz < ((70 : Int)), 0 ≤ zz ∧ zz < 70, ((0 : Int)) ≤ zz, zz < ((70 : Int)), 0 ≤ zz ∧ zz < 70, 0 ≤ ((1 : Int)) ∧ ((1 : Int)) ≤ 1, 0 ≤ ((1 : Int)) ∧ ((1 : Int)) ≤ 1, -2147483648 ≤ zn + 1 ∧ zn + 1 ≤ 2147483647]) := rfl
theorem mi_tab_siD_6 : ∀ e ∈ ([(77, (12, 0, sb_77)), (16, (3, 0, sb_16)), (49, (2, 1, sb_49)), (66, (4, 0, sb_66)), (72, (2, 2, sb_72))] : mi_T), sc_P e.1 = some e.2 := mi_tb mi_P77 (mi_tb mi_P16 (mi_tb mi_P49 (mi_tb mi_P66 (mi_tb mi_P72 (mi_tb_e)))))
set_option maxRecDepth 20000 in
theorem ms_siD_6 {h : sm_H} {d : Nat} {Q : Option mi_V → sm_H → Prop} {za zp zn zq zz : Int} {zx zy zw : Int64} {qb : Option mi_V} (hS : ab_Sh sx_sk h) (ok_za : mi_in za) (ok_zp : mi_in zp) (ok_zn : mi_in zn) (ok_zq : mi_in zq) (ok_zz : mi_in zz) (ok_qb : ∀ v, qb = some v → mi_ok v) (ho : (zz ≠ ((-1 : Int))) ∧ (((0 : Int)) ≤ zz) ∧ (zz < ((70 : Int))) ∧ (0 ≤ zz ∧ zz < 70) ∧ (((lg_cmp (zw &&& ((mx_b h 81 (Int.toNat zz)) ^^^ (Int64.ofNat 18446744073709551615))) (Int64.ofNat 0)).toInt) ≠ ((0 : Int))) ∧ (((0 : Int)) ≤ zz) ∧ (zz < ((70 : Int))) ∧ (0 ≤ zz ∧ zz < 70) ∧ (((0 : Int)) ≤ zz) ∧ (zz < ((70 : Int))) ∧ (0 ≤ zz ∧ zz < 70) ∧ (0 ≤ ((1 : Int)) ∧ ((1 : Int)) ≤ 1) ∧ (0 ≤ ((1 : Int)) ∧ ((1 : Int)) ≤ 1) ∧ (-2147483648 ≤ zn + 1 ∧ zn + 1 ≤ 2147483647)) (kon : ∀ h1, me_W [.inl (9999, (1 : Int)), .inr (.inr (.inr (81, Int.toNat zz, (mx_b h 81 (Int.toNat zz)) ||| zw)))] h h1 → me_E (d + 5) 77 16 [some (.inr (.inr 78)), some (.inl (za)), some (.inr (.inl (zx))), none, some (.inl (zq)), some (.inl (zn + 1)), some (.inl (zq)), some (.inr (.inl (zy))), none, some (.inr (.inl (zw))), none, some (.inl (zz))] [] h1 Q) : me_E (d + 5) 77 107 [some (.inr (.inr 78)), some (.inl (za)), some (.inr (.inl (zx))), none, some (.inl (zp)), some (.inl (zn)), some (.inl (zq)), some (.inr (.inl (zy))), none, some (.inr (.inl (zw))), none, qb] [.inl (zz)] h Q := mf_seg (mp_siD_6 h d za zp zn zq zz zx zy zw qb) (mi_tab_siD_6) hS (mi_okL_c (trivial) (mi_okL_c (ok_za) (mi_okL_c (trivial) (mi_okL_n (mi_okL_c (ok_zp) (mi_okL_c (ok_zn) (mi_okL_c (ok_zq) (mi_okL_c (trivial) (mi_okL_n (mi_okL_c (trivial) (mi_okL_n (mi_okL_o ok_qb (mi_okL_e))))))))))))) (mi_okS_cons (ok_zz) (mi_okS_e)) (mi_al (ho.1) (mi_al (ho.2.1) (mi_al (ho.2.2.1) (mi_al (ho.2.2.2.1) (mi_al (ho.2.2.2.2.1) (mi_al (ho.2.2.2.2.2.1) (mi_al (ho.2.2.2.2.2.2.1) (mi_al (ho.2.2.2.2.2.2.2.1) (mi_al (ho.2.2.2.2.2.2.2.2.1) (mi_al (ho.2.2.2.2.2.2.2.2.2.1) (mi_al (ho.2.2.2.2.2.2.2.2.2.2.1) (mi_al (ho.2.2.2.2.2.2.2.2.2.2.2.1) (mi_al (ho.2.2.2.2.2.2.2.2.2.2.2.2.1) (mi_al (ho.2.2.2.2.2.2.2.2.2.2.2.2.2) (mi_al_e))))))))))))))) (fun h1 W _ hst => kon h1 W)
set_option maxRecDepth 20000 in
theorem mt_siD {h : sm_H} {d : Nat} {Q : Option mi_V → sm_H → Prop} {za zp zn zq zz : Int} {zx zy zw : Int64} {qb : Option mi_V} (hS : ab_Sh sx_sk h) (ok_za : mi_in za) (ok_zp : mi_in zp) (ok_zn : mi_in zn) (ok_zq : mi_in zq) (ok_zz : mi_in zz) (ok_qb : ∀ v, qb = some v → mi_ok v) (k0 : (zz = ((-1 : Int))) → ((-2147483648 ≤ zn + 1 ∧ zn + 1 ≤ 2147483647)) ∧ (∀ h1, ab_Sh sx_sk h1 → ab_Fr [] h h1 → me_E (d + 5) 77 16 [some (.inr (.inr 78)), some (.inl (za)), some (.inr (.inl (zx))), none, some (.inl (zq)), some (.inl (zn + 1)), some (.inl (zq)), some (.inr (.inl (zy))), none, some (.inr (.inl (zw))), none, some (.inl (zz))] [] h1 Q)) (k1 : (zz ≠ ((-1 : Int))) → (zz < ((0 : Int))) → (((lg_cmp (zw &&& ((Int64.ofNat 0) ^^^ (Int64.ofNat 18446744073709551615))) (Int64.ofNat 0)).toInt) = ((0 : Int))) → ((-2147483648 ≤ zn + 1 ∧ zn + 1 ≤ 2147483647)) ∧ (∀ h1, ab_Sh sx_sk h1 → ab_Fr [] h h1 → me_E (d + 5) 77 16 [some (.inr (.inr 78)), some (.inl (za)), some (.inr (.inl (zx))), none, some (.inl (zq)), some (.inl (zn + 1)), some (.inl (zq)), some (.inr (.inl (zy))), none, some (.inr (.inl (zw))), none, some (.inl (zz))] [] h1 Q)) (k2 : (zz ≠ ((-1 : Int))) → (zz < ((0 : Int))) → (((lg_cmp (zw &&& ((Int64.ofNat 0) ^^^ (Int64.ofNat 18446744073709551615))) (Int64.ofNat 0)).toInt) ≠ ((0 : Int))) → ((-2147483648 ≤ zn + 1 ∧ zn + 1 ≤ 2147483647)) ∧ (∀ h1, ab_Sh sx_sk h1 → mi_f h1 9999 = (1 : Int) → ab_Fr [(9999, 10000)] h h1 → me_E (d + 5) 77 16 [some (.inr (.inr 78)), some (.inl (za)), some (.inr (.inl (zx))), none, some (.inl (zq)), some (.inl (zn + 1)), some (.inl (zq)), some (.inr (.inl (zy))), none, some (.inr (.inl (zw))), none, some (.inl (zz))] [] h1 Q)) (k3 : (zz ≠ ((-1 : Int))) → (((0 : Int)) ≤ zz) → (((70 : Int)) ≤ zz) → (((lg_cmp (zw &&& ((Int64.ofNat 0) ^^^ (Int64.ofNat 18446744073709551615))) (Int64.ofNat 0)).toInt) = ((0 : Int))) → ((-2147483648 ≤ zn + 1 ∧ zn + 1 ≤ 2147483647)) ∧ (∀ h1, ab_Sh sx_sk h1 → ab_Fr [] h h1 → me_E (d + 5) 77 16 [some (.inr (.inr 78)), some (.inl (za)), some (.inr (.inl (zx))), none, some (.inl (zq)), some (.inl (zn + 1)), some (.inl (zq)), some (.inr (.inl (zy))), none, some (.inr (.inl (zw))), none, some (.inl (zz))] [] h1 Q)) (k4 : (zz ≠ ((-1 : Int))) → (((0 : Int)) ≤ zz) → (((70 : Int)) ≤ zz) → (((lg_cmp (zw &&& ((Int64.ofNat 0) ^^^ (Int64.ofNat 18446744073709551615))) (Int64.ofNat 0)).toInt) ≠ ((0 : Int))) → ((-2147483648 ≤ zn + 1 ∧ zn + 1 ≤ 2147483647)) ∧ (∀ h1, ab_Sh sx_sk h1 → mi_f h1 9999 = (1 : Int) → ab_Fr [(9999, 10000)] h h1 → me_E (d + 5) 77 16 [some (.inr (.inr 78)), some (.inl (za)), some (.inr (.inl (zx))), none, some (.inl (zq)), some (.inl (zn + 1)), some (.inl (zq)), some (.inr (.inl (zy))), none, some (.inr (.inl (zw))), none, some (.inl (zz))] [] h1 Q)) (k5 : (zz ≠ ((-1 : Int))) → (((0 : Int)) ≤ zz) → (zz < ((70 : Int))) → (((lg_cmp (zw &&& ((mx_b h 81 (Int.toNat zz)) ^^^ (Int64.ofNat 18446744073709551615))) (Int64.ofNat 0)).toInt) = ((0 : Int))) → ((0 ≤ zz ∧ zz < 70) ∧ (-2147483648 ≤ zn + 1 ∧ zn + 1 ≤ 2147483647)) ∧ (∀ h1, ab_Sh sx_sk h1 → ab_Fr [] h h1 → me_E (d + 5) 77 16 [some (.inr (.inr 78)), some (.inl (za)), some (.inr (.inl (zx))), none, some (.inl (zq)), some (.inl (zn + 1)), some (.inl (zq)), some (.inr (.inl (zy))), none, some (.inr (.inl (zw))), none, some (.inl (zz))] [] h1 Q)) (k6 : (zz ≠ ((-1 : Int))) → (((0 : Int)) ≤ zz) → (zz < ((70 : Int))) → (((lg_cmp (zw &&& ((mx_b h 81 (Int.toNat zz)) ^^^ (Int64.ofNat 18446744073709551615))) (Int64.ofNat 0)).toInt) ≠ ((0 : Int))) → ((0 ≤ zz ∧ zz < 70) ∧ (-2147483648 ≤ zn + 1 ∧ zn + 1 ≤ 2147483647)) ∧ (∀ h1, ab_Sh sx_sk h1 → mi_f h1 9999 = (1 : Int) → (∀ i, mx_b h1 81 i = if i = Int.toNat zz then (mx_b h 81 (Int.toNat zz)) ||| zw else (mx_b h 81 i)) → ab_Fr [(9999, 10000), (10368, 10369)] h h1 → me_E (d + 5) 77 16 [some (.inr (.inr 78)), some (.inl (za)), some (.inr (.inl (zx))), none, some (.inl (zq)), some (.inl (zn + 1)), some (.inl (zq)), some (.inr (.inl (zy))), none, some (.inr (.inl (zw))), none, some (.inl (zz))] [] h1 Q)) : me_E (d + 5) 77 107 [some (.inr (.inr 78)), some (.inl (za)), some (.inr (.inl (zx))), none, some (.inl (zp)), some (.inl (zn)), some (.inl (zq)), some (.inr (.inl (zy))), none, some (.inr (.inl (zw))), none, qb] [.inl (zz)] h Q := Or.elim (mi_em .eq (zz) (((-1 : Int)))) (fun c0 => ms_siD_0 hS ok_za ok_zp ok_zn ok_zq ok_zz ok_qb ⟨c0, (k0 c0).1⟩ (fun h1 W => (k0 c0).2 h1 W.1 (W.2.2.2.2.2 _ rfl))) (fun c0 => Or.elim (mi_em .lt (zz) (((0 : Int)))) (fun c1 => Or.elim (mi_em .eq (((lg_cmp (zw &&& ((Int64.ofNat 0) ^^^ (Int64.ofNat 18446744073709551615))) (Int64.ofNat 0)).toInt)) (((0 : Int)))) (fun c2 => ms_siD_1 hS ok_za ok_zp ok_zn ok_zq ok_zz ok_qb ⟨c0, c1, c2, (k1 c0 c1 c2).1⟩ (fun h1 W => (k1 c0 c1 c2).2 h1 W.1 (W.2.2.2.2.2 _ rfl))) (fun c2 => ms_siD_2 hS ok_za ok_zp ok_zn ok_zq ok_zz ok_qb ⟨c0, c1, c2, c1, c1, (by decide), (by decide), (k2 c0 c1 c2).1⟩ (fun h1 W => (k2 c0 c1 c2).2 h1 W.1 (W.2.1 9999) (W.2.2.2.2.2 _ rfl)))) (fun c1 => Or.elim (mi_em .ge (zz) (((70 : Int)))) (fun c2 => Or.elim (mi_em .eq (((lg_cmp (zw &&& ((Int64.ofNat 0) ^^^ (Int64.ofNat 18446744073709551615))) (Int64.ofNat 0)).toInt)) (((0 : Int)))) (fun c3 => ms_siD_3 hS ok_za ok_zp ok_zn ok_zq ok_zz ok_qb ⟨c0, c1, c2, c3, (k3 c0 c1 c2 c3).1⟩ (fun h1 W => (k3 c0 c1 c2 c3).2 h1 W.1 (W.2.2.2.2.2 _ rfl))) (fun c3 => ms_siD_4 hS ok_za ok_zp ok_zn ok_zq ok_zz ok_qb ⟨c0, c1, c2, c3, c1, c2, c1, c2, (by decide), (by decide), (k4 c0 c1 c2 c3).1⟩ (fun h1 W => (k4 c0 c1 c2 c3).2 h1 W.1 (W.2.1 9999) (W.2.2.2.2.2 _ rfl)))) (fun c2 => Or.elim (mi_em .eq (((lg_cmp (zw &&& ((mx_b h 81 (Int.toNat zz)) ^^^ (Int64.ofNat 18446744073709551615))) (Int64.ofNat 0)).toInt)) (((0 : Int)))) (fun c3 => ms_siD_5 hS ok_za ok_zp ok_zn ok_zq ok_zz ok_qb ⟨c0, c1, c2, (k5 c0 c1 c2 c3).1.1, c3, (k5 c0 c1 c2 c3).1.2⟩ (fun h1 W => (k5 c0 c1 c2 c3).2 h1 W.1 (W.2.2.2.2.2 _ rfl))) (fun c3 => ms_siD_6 hS ok_za ok_zp ok_zn ok_zq ok_zz ok_qb ⟨c0, c1, c2, (k6 c0 c1 c2 c3).1.1, c3, c1, c2, (k6 c0 c1 c2 c3).1.1, c1, c2, (k6 c0 c1 c2 c3).1.1, (by decide), (by decide), (k6 c0 c1 c2 c3).1.2⟩ (fun h1 W => (k6 c0 c1 c2 c3).2 h1 W.1 (W.2.1 9999) (fun i => W.2.2.2.2.1 81 i) (W.2.2.2.2.2 _ rfl))))))
set_option maxRecDepth 20000 in
theorem mp_svA_0 (h : sm_H) (d : Nat) : mj_path [(76, (5, 0, sb_76))] sx_sk h 5 [] (d + 6, 76, 0, [some (.inr (.inr 78)), none, none, none, none], [], [], []) = some ((d + 6, 76, 7, [some (.inr (.inr 78)), some (.inl ((0 : Int))), none, none, none], [], [.inl (9999, (1 : Int))], []), [0 ≤ ((1 : Int)) ∧ ((1 : Int)) ≤ 1, 0 ≤ ((1 : Int)) ∧ ((1 : Int)) ≤ 1]) := rfl
theorem mi_tab_svA_0 : ∀ e ∈ ([(76, (5, 0, sb_76))] : mi_T), sc_P e.1 = some e.2 := mi_tb mi_P76 (mi_tb_e)
set_option maxRecDepth 20000 in
theorem ms_svA_0 {h : sm_H} {d : Nat} {Q : Option mi_V → sm_H → Prop} (hS : ab_Sh sx_sk h)  (ho : (0 ≤ ((1 : Int)) ∧ ((1 : Int)) ≤ 1) ∧ (0 ≤ ((1 : Int)) ∧ ((1 : Int)) ≤ 1)) (kon : ∀ h1, me_W [.inl (9999, (1 : Int))] h h1 → me_E (d + 6) 76 7 [some (.inr (.inr 78)), some (.inl ((0 : Int))), none, none, none] [] h1 Q) : me_E (d + 6) 76 0 [some (.inr (.inr 78)), none, none, none, none] [] h Q := mf_seg (mp_svA_0 h d ) (mi_tab_svA_0) hS (mi_okL_c (trivial) (mi_okL_n (mi_okL_n (mi_okL_n (mi_okL_n (mi_okL_e)))))) (mi_okS_e) (mi_al (ho.1) (mi_al (ho.2) (mi_al_e))) (fun h1 W _ hst => kon h1 W)
set_option maxRecDepth 20000 in
theorem mt_svA {h : sm_H} {d : Nat} {Q : Option mi_V → sm_H → Prop} (hS : ab_Sh sx_sk h)  (k0 : (∀ h1, ab_Sh sx_sk h1 → mi_f h1 9999 = (1 : Int) → ab_Fr [(9999, 10000)] h h1 → me_E (d + 6) 76 7 [some (.inr (.inr 78)), some (.inl ((0 : Int))), none, none, none] [] h1 Q)) : me_E (d + 6) 76 0 [some (.inr (.inr 78)), none, none, none, none] [] h Q := ms_svA_0 hS ⟨(by decide), (by decide)⟩ (fun h1 W => (k0) h1 W.1 (W.2.1 9999) (W.2.2.2.2.2 _ rfl))
set_option maxRecDepth 20000 in
theorem mp_svB_0 (h : sm_H) (d : Nat) (zn : Int) (q2 q3 q4 : Option mi_V) : mj_path [(76, (5, 0, sb_76))] sx_sk h 3 [1] (d + 6, 76, 7, [some (.inr (.inr 78)), some (.inl (zn)), q2, q3, q4], [], [], []) = some ((d + 6, 76, 114, [some (.inr (.inr 78)), some (.inl (zn)), q2, q3, q4], [], [], []), [(mi_f h 9999) = ((0 : Int))]) := rfl
theorem mi_tab_svB_0 : ∀ e ∈ ([(76, (5, 0, sb_76))] : mi_T), sc_P e.1 = some e.2 := mi_tb mi_P76 (mi_tb_e)
set_option maxRecDepth 20000 in
theorem ms_svB_0 {h : sm_H} {d : Nat} {Q : Option mi_V → sm_H → Prop} {zn : Int} {q2 q3 q4 : Option mi_V} (hS : ab_Sh sx_sk h) (ok_zn : mi_in zn) (ok_q2 : ∀ v, q2 = some v → mi_ok v) (ok_q3 : ∀ v, q3 = some v → mi_ok v) (ok_q4 : ∀ v, q4 = some v → mi_ok v) (ho : ((mi_f h 9999) = ((0 : Int)))) (kon : ∀ h1, me_W [] h h1 → Q none h1) : me_E (d + 6) 76 7 [some (.inr (.inr 78)), some (.inl (zn)), q2, q3, q4] [] h Q := mf_seg (mp_svB_0 h d zn q2 q3 q4) (mi_tab_svB_0) hS (mi_okL_c (trivial) (mi_okL_c (ok_zn) (mi_okL_o ok_q2 (mi_okL_o ok_q3 (mi_okL_o ok_q4 (mi_okL_e)))))) (mi_okS_e) (mi_al (ho) (mi_al_e)) (fun h1 W _ hst => mf_ret (M := (5, 0, sb_76)) rfl rfl rfl hst (mi_al_e) (kon h1 W))
set_option maxRecDepth 20000 in
theorem mp_svB_1 (h : sm_H) (d : Nat) (zn : Int) (q2 q3 q4 : Option mi_V) : mj_path [(76, (5, 0, sb_76))] sx_sk h 6 [0, 1] (d + 6, 76, 7, [some (.inr (.inr 78)), some (.inl (zn)), q2, q3, q4], [], [], []) = some ((d + 6, 76, 114, [some (.inr (.inr 78)), some (.inl (zn)), q2, q3, q4], [], [], []), [(mi_f h 9999) ≠ ((0 : Int)), ((100000 : Int)) ≤ zn]) := rfl
theorem mi_tab_svB_1 : ∀ e ∈ ([(76, (5, 0, sb_76))] : mi_T), sc_P e.1 = some e.2 := mi_tb mi_P76 (mi_tb_e)
set_option maxRecDepth 20000 in
theorem ms_svB_1 {h : sm_H} {d : Nat} {Q : Option mi_V → sm_H → Prop} {zn : Int} {q2 q3 q4 : Option mi_V} (hS : ab_Sh sx_sk h) (ok_zn : mi_in zn) (ok_q2 : ∀ v, q2 = some v → mi_ok v) (ok_q3 : ∀ v, q3 = some v → mi_ok v) (ok_q4 : ∀ v, q4 = some v → mi_ok v) (ho : ((mi_f h 9999) ≠ ((0 : Int))) ∧ (((100000 : Int)) ≤ zn)) (kon : ∀ h1, me_W [] h h1 → Q none h1) : me_E (d + 6) 76 7 [some (.inr (.inr 78)), some (.inl (zn)), q2, q3, q4] [] h Q := mf_seg (mp_svB_1 h d zn q2 q3 q4) (mi_tab_svB_1) hS (mi_okL_c (trivial) (mi_okL_c (ok_zn) (mi_okL_o ok_q2 (mi_okL_o ok_q3 (mi_okL_o ok_q4 (mi_okL_e)))))) (mi_okS_e) (mi_al (ho.1) (mi_al (ho.2) (mi_al_e))) (fun h1 W _ hst => mf_ret (M := (5, 0, sb_76)) rfl rfl rfl hst (mi_al_e) (kon h1 W))
set_option maxRecDepth 20000 in
theorem mp_svB_2 (h : sm_H) (d : Nat) (zn : Int) (q2 q3 q4 : Option mi_V) : mj_path [(76, (5, 0, sb_76))] sx_sk h 11 [0, 0] (d + 6, 76, 7, [some (.inr (.inr 78)), some (.inl (zn)), q2, q3, q4], [], [], []) = some ((d + 6, 76, 27, [some (.inr (.inr 78)), some (.inl (zn)), some (.inl ((0 : Int))), q3, q4], [], [.inl (9999, (0 : Int))], []), [(mi_f h 9999) ≠ ((0 : Int)), zn < ((100000 : Int)), 0 ≤ ((0 : Int)) ∧ ((0 : Int)) ≤ 1, 0 ≤ ((0 : Int)) ∧ ((0 : Int)) ≤ 1]) := rfl
theorem mi_tab_svB_2 : ∀ e ∈ ([(76, (5, 0, sb_76))] : mi_T), sc_P e.1 = some e.2 := mi_tb mi_P76 (mi_tb_e)
set_option maxRecDepth 20000 in
theorem ms_svB_2 {h : sm_H} {d : Nat} {Q : Option mi_V → sm_H → Prop} {zn : Int} {q2 q3 q4 : Option mi_V} (hS : ab_Sh sx_sk h) (ok_zn : mi_in zn) (ok_q2 : ∀ v, q2 = some v → mi_ok v) (ok_q3 : ∀ v, q3 = some v → mi_ok v) (ok_q4 : ∀ v, q4 = some v → mi_ok v) (ho : ((mi_f h 9999) ≠ ((0 : Int))) ∧ (zn < ((100000 : Int))) ∧ (0 ≤ ((0 : Int)) ∧ ((0 : Int)) ≤ 1) ∧ (0 ≤ ((0 : Int)) ∧ ((0 : Int)) ≤ 1)) (kon : ∀ h1, me_W [.inl (9999, (0 : Int))] h h1 → me_E (d + 6) 76 27 [some (.inr (.inr 78)), some (.inl (zn)), some (.inl ((0 : Int))), q3, q4] [] h1 Q) : me_E (d + 6) 76 7 [some (.inr (.inr 78)), some (.inl (zn)), q2, q3, q4] [] h Q := mf_seg (mp_svB_2 h d zn q2 q3 q4) (mi_tab_svB_2) hS (mi_okL_c (trivial) (mi_okL_c (ok_zn) (mi_okL_o ok_q2 (mi_okL_o ok_q3 (mi_okL_o ok_q4 (mi_okL_e)))))) (mi_okS_e) (mi_al (ho.1) (mi_al (ho.2.1) (mi_al (ho.2.2.1) (mi_al (ho.2.2.2) (mi_al_e))))) (fun h1 W _ hst => kon h1 W)
set_option maxRecDepth 20000 in
theorem mt_svB {h : sm_H} {d : Nat} {Q : Option mi_V → sm_H → Prop} {zn : Int} {q2 q3 q4 : Option mi_V} (hS : ab_Sh sx_sk h) (ok_zn : mi_in zn) (ok_q2 : ∀ v, q2 = some v → mi_ok v) (ok_q3 : ∀ v, q3 = some v → mi_ok v) (ok_q4 : ∀ v, q4 = some v → mi_ok v) (k0 : (0 ≤ mi_f h 9999 ∧ mi_f h 9999 ≤ 1) → ((mi_f h 9999) = ((0 : Int))) → (∀ h1, ab_Sh sx_sk h1 → ab_Fr [] h h1 → Q none h1)) (k1 : (0 ≤ mi_f h 9999 ∧ mi_f h 9999 ≤ 1) → ((mi_f h 9999) ≠ ((0 : Int))) → (((100000 : Int)) ≤ zn) → (∀ h1, ab_Sh sx_sk h1 → ab_Fr [] h h1 → Q none h1)) (k2 : (0 ≤ mi_f h 9999 ∧ mi_f h 9999 ≤ 1) → ((mi_f h 9999) ≠ ((0 : Int))) → (zn < ((100000 : Int))) → (∀ h1, ab_Sh sx_sk h1 → mi_f h1 9999 = (0 : Int) → ab_Fr [(9999, 10000)] h h1 → me_E (d + 6) 76 27 [some (.inr (.inr 78)), some (.inl (zn)), some (.inl ((0 : Int))), q3, q4] [] h1 Q)) : me_E (d + 6) 76 7 [some (.inr (.inr 78)), some (.inl (zn)), q2, q3, q4] [] h Q := Or.elim (mi_em .eq ((mi_f h 9999)) (((0 : Int)))) (fun c0 => ms_svB_0 hS ok_zn ok_q2 ok_q3 ok_q4 (c0) (fun h1 W => (k0 (me_fb hS rfl) c0) h1 W.1 (W.2.2.2.2.2 _ rfl))) (fun c0 => Or.elim (mi_em .ge (zn) (((100000 : Int)))) (fun c1 => ms_svB_1 hS ok_zn ok_q2 ok_q3 ok_q4 ⟨c0, c1⟩ (fun h1 W => (k1 (me_fb hS rfl) c0 c1) h1 W.1 (W.2.2.2.2.2 _ rfl))) (fun c1 => ms_svB_2 hS ok_zn ok_q2 ok_q3 ok_q4 ⟨c0, c1, (by decide), (by decide)⟩ (fun h1 W => (k2 (me_fb hS rfl) c0 c1) h1 W.1 (W.2.1 9999) (W.2.2.2.2.2 _ rfl))))
set_option maxRecDepth 20000 in
theorem mp_svC_0 (h : sm_H) (d : Nat) (zn zf : Int) (q3 q4 : Option mi_V) : mj_path [(76, (5, 0, sb_76)), (16, (3, 0, sb_16)), (49, (2, 1, sb_49)), (66, (4, 0, sb_66)), (72, (2, 2, sb_72))] sx_sk h 5 [1] (d + 6, 76, 27, [some (.inr (.inr 78)), some (.inl (zn)), some (.inl (zf)), q3, q4], [], [], []) = some ((d + 6, 76, 7, [some (.inr (.inr 78)), some (.inl (zn + 1)), some (.inl (zf)), q3, q4], [], [], []), [((70 : Int)) ≤ zf, -2147483648 ≤ zn + 1 ∧ zn + 1 ≤ 2147483647]) := rfl
theorem mi_tab_svC_0 : ∀ e ∈ ([(76, (5, 0, sb_76)), (16, (3, 0, sb_16)), (49, (2, 1, sb_49)), (66, (4, 0, sb_66)), (72, (2, 2, sb_72))] : mi_T), sc_P e.1 = some e.2 := mi_tb mi_P76 (mi_tb mi_P16 (mi_tb mi_P49 (mi_tb mi_P66 (mi_tb mi_P72 (mi_tb_e)))))
set_option maxRecDepth 20000 in
theorem ms_svC_0 {h : sm_H} {d : Nat} {Q : Option mi_V → sm_H → Prop} {zn zf : Int} {q3 q4 : Option mi_V} (hS : ab_Sh sx_sk h) (ok_zn : mi_in zn) (ok_zf : mi_in zf) (ok_q3 : ∀ v, q3 = some v → mi_ok v) (ok_q4 : ∀ v, q4 = some v → mi_ok v) (ho : (((70 : Int)) ≤ zf) ∧ (-2147483648 ≤ zn + 1 ∧ zn + 1 ≤ 2147483647)) (kon : ∀ h1, me_W [] h h1 → me_E (d + 6) 76 7 [some (.inr (.inr 78)), some (.inl (zn + 1)), some (.inl (zf)), q3, q4] [] h1 Q) : me_E (d + 6) 76 27 [some (.inr (.inr 78)), some (.inl (zn)), some (.inl (zf)), q3, q4] [] h Q := mf_seg (mp_svC_0 h d zn zf q3 q4) (mi_tab_svC_0) hS (mi_okL_c (trivial) (mi_okL_c (ok_zn) (mi_okL_c (ok_zf) (mi_okL_o ok_q3 (mi_okL_o ok_q4 (mi_okL_e)))))) (mi_okS_e) (mi_al (ho.1) (mi_al (ho.2) (mi_al_e))) (fun h1 W _ hst => kon h1 W)
set_option maxRecDepth 20000 in
theorem mp_svC_1 (h : sm_H) (d : Nat) (zn zf : Int) (q3 q4 : Option mi_V) : mj_path [(76, (5, 0, sb_76)), (16, (3, 0, sb_16)), (49, (2, 1, sb_49)), (66, (4, 0, sb_66)), (72, (2, 2, sb_72))] sx_sk h 15 [0, 1] (d + 6, 76, 27, [some (.inr (.inr 78)), some (.inl (zn)), some (.inl (zf)), q3, q4], [], [], []) = some ((d + 6, 76, 48, [some (.inr (.inr 78)), some (.inl (zn)), some (.inl (zf)), some (.inl ((0 : Int))), some (.inl ((0 : Int)))], [], [], []), [zf < ((70 : Int)), zf < ((0 : Int))]) := rfl
theorem mi_tab_svC_1 : ∀ e ∈ ([(76, (5, 0, sb_76)), (16, (3, 0, sb_16)), (49, (2, 1, sb_49)), (66, (4, 0, sb_66)), (72, (2, 2, sb_72))] : mi_T), sc_P e.1 = some e.2 := mi_tb mi_P76 (mi_tb mi_P16 (mi_tb mi_P49 (mi_tb mi_P66 (mi_tb mi_P72 (mi_tb_e)))))
set_option maxRecDepth 20000 in
theorem ms_svC_1 {h : sm_H} {d : Nat} {Q : Option mi_V → sm_H → Prop} {zn zf : Int} {q3 q4 : Option mi_V} (hS : ab_Sh sx_sk h) (ok_zn : mi_in zn) (ok_zf : mi_in zf) (ok_q3 : ∀ v, q3 = some v → mi_ok v) (ok_q4 : ∀ v, q4 = some v → mi_ok v) (ho : (zf < ((70 : Int))) ∧ (zf < ((0 : Int)))) (kon : ∀ h1, me_W [] h h1 → me_E (d + 6) 76 48 [some (.inr (.inr 78)), some (.inl (zn)), some (.inl (zf)), some (.inl ((0 : Int))), some (.inl ((0 : Int)))] [] h1 Q) : me_E (d + 6) 76 27 [some (.inr (.inr 78)), some (.inl (zn)), some (.inl (zf)), q3, q4] [] h Q := mf_seg (mp_svC_1 h d zn zf q3 q4) (mi_tab_svC_1) hS (mi_okL_c (trivial) (mi_okL_c (ok_zn) (mi_okL_c (ok_zf) (mi_okL_o ok_q3 (mi_okL_o ok_q4 (mi_okL_e)))))) (mi_okS_e) (mi_al (ho.1) (mi_al (ho.2) (mi_al_e))) (fun h1 W _ hst => kon h1 W)
set_option maxRecDepth 20000 in
theorem mp_svC_2 (h : sm_H) (d : Nat) (zn zf : Int) (q3 q4 : Option mi_V) : mj_path [(76, (5, 0, sb_76)), (16, (3, 0, sb_16)), (49, (2, 1, sb_49)), (66, (4, 0, sb_66)), (72, (2, 2, sb_72))] sx_sk h 22 [0, 0, 0] (d + 6, 76, 27, [some (.inr (.inr 78)), some (.inl (zn)), some (.inl (zf)), q3, q4], [], [], []) = some ((d + 6, 76, 48, [some (.inr (.inr 78)), some (.inl (zn)), some (.inl (zf)), some (.inl (mi_a h 63 (Int.toNat zf))), some (.inl ((0 : Int)))], [], [], []), [zf < ((70 : Int)), ((0 : Int)) ≤ zf, zf < ((70 : Int)), 0 ≤ zf ∧ zf < 70]) := rfl
theorem mi_tab_svC_2 : ∀ e ∈ ([(76, (5, 0, sb_76)), (16, (3, 0, sb_16)), (49, (2, 1, sb_49)), (66, (4, 0, sb_66)), (72, (2, 2, sb_72))] : mi_T), sc_P e.1 = some e.2 := mi_tb mi_P76 (mi_tb mi_P16 (mi_tb mi_P49 (mi_tb mi_P66 (mi_tb mi_P72 (mi_tb_e)))))
set_option maxRecDepth 20000 in
theorem ms_svC_2 {h : sm_H} {d : Nat} {Q : Option mi_V → sm_H → Prop} {zn zf : Int} {q3 q4 : Option mi_V} (hS : ab_Sh sx_sk h) (ok_zn : mi_in zn) (ok_zf : mi_in zf) (ok_q3 : ∀ v, q3 = some v → mi_ok v) (ok_q4 : ∀ v, q4 = some v → mi_ok v) (ho : (zf < ((70 : Int))) ∧ (((0 : Int)) ≤ zf) ∧ (zf < ((70 : Int))) ∧ (0 ≤ zf ∧ zf < 70)) (kon : ∀ h1, me_W [] h h1 → me_E (d + 6) 76 48 [some (.inr (.inr 78)), some (.inl (zn)), some (.inl (zf)), some (.inl (mi_a h 63 (Int.toNat zf))), some (.inl ((0 : Int)))] [] h1 Q) : me_E (d + 6) 76 27 [some (.inr (.inr 78)), some (.inl (zn)), some (.inl (zf)), q3, q4] [] h Q := mf_seg (mp_svC_2 h d zn zf q3 q4) (mi_tab_svC_2) hS (mi_okL_c (trivial) (mi_okL_c (ok_zn) (mi_okL_c (ok_zf) (mi_okL_o ok_q3 (mi_okL_o ok_q4 (mi_okL_e)))))) (mi_okS_e) (mi_al (ho.1) (mi_al (ho.2.1) (mi_al (ho.2.2.1) (mi_al (ho.2.2.2) (mi_al_e))))) (fun h1 W _ hst => kon h1 W)
set_option maxRecDepth 20000 in
theorem mt_svC {h : sm_H} {d : Nat} {Q : Option mi_V → sm_H → Prop} {zn zf : Int} {q3 q4 : Option mi_V} (hS : ab_Sh sx_sk h) (ok_zn : mi_in zn) (ok_zf : mi_in zf) (ok_q3 : ∀ v, q3 = some v → mi_ok v) (ok_q4 : ∀ v, q4 = some v → mi_ok v) (k0 : (((70 : Int)) ≤ zf) → ((-2147483648 ≤ zn + 1 ∧ zn + 1 ≤ 2147483647)) ∧ (∀ h1, ab_Sh sx_sk h1 → ab_Fr [] h h1 → me_E (d + 6) 76 7 [some (.inr (.inr 78)), some (.inl (zn + 1)), some (.inl (zf)), q3, q4] [] h1 Q)) (k1 : (zf < ((70 : Int))) → (zf < ((0 : Int))) → (∀ h1, ab_Sh sx_sk h1 → ab_Fr [] h h1 → me_E (d + 6) 76 48 [some (.inr (.inr 78)), some (.inl (zn)), some (.inl (zf)), some (.inl ((0 : Int))), some (.inl ((0 : Int)))] [] h1 Q)) (k2 : (zf < ((70 : Int))) → (((0 : Int)) ≤ zf) → ((0 ≤ zf ∧ zf < 70)) ∧ (∀ h1, ab_Sh sx_sk h1 → ab_Fr [] h h1 → me_E (d + 6) 76 48 [some (.inr (.inr 78)), some (.inl (zn)), some (.inl (zf)), some (.inl (mi_a h 63 (Int.toNat zf))), some (.inl ((0 : Int)))] [] h1 Q)) : me_E (d + 6) 76 27 [some (.inr (.inr 78)), some (.inl (zn)), some (.inl (zf)), q3, q4] [] h Q := Or.elim (mi_em .ge (zf) (((70 : Int)))) (fun c0 => ms_svC_0 hS ok_zn ok_zf ok_q3 ok_q4 ⟨c0, (k0 c0).1⟩ (fun h1 W => (k0 c0).2 h1 W.1 (W.2.2.2.2.2 _ rfl))) (fun c0 => Or.elim (mi_em .lt (zf) (((0 : Int)))) (fun c1 => ms_svC_1 hS ok_zn ok_zf ok_q3 ok_q4 ⟨c0, c1⟩ (fun h1 W => (k1 c0 c1) h1 W.1 (W.2.2.2.2.2 _ rfl))) (fun c1 => ms_svC_2 hS ok_zn ok_zf ok_q3 ok_q4 ⟨c0, c1, c0, (k2 c0 c1).1⟩ (fun h1 W => (k2 c0 c1).2 h1 W.1 (W.2.2.2.2.2 _ rfl))))
set_option maxRecDepth 20000 in
theorem mp_svD_0 (h : sm_H) (d : Nat) (zn zf za zk : Int) : mj_path [(76, (5, 0, sb_76)), (16, (3, 0, sb_16)), (49, (2, 1, sb_49)), (66, (4, 0, sb_66)), (72, (2, 2, sb_72))] sx_sk h 13 [1, 1] (d + 6, 76, 48, [some (.inr (.inr 78)), some (.inl (zn)), some (.inl (zf)), some (.inl (za)), some (.inl (zk))], [], [], []) = some ((d + 6, 76, 27, [some (.inr (.inr 78)), some (.inl (zn)), some (.inl (zf + 1)), some (.inl (za)), some (.inl (zk))], [], [], []), [zf < ((0 : Int)), ((0 : Int)) ≤ zk, -2147483648 ≤ zf + 1 ∧ zf + 1 ≤ 2147483647]) := rfl
theorem mi_tab_svD_0 : ∀ e ∈ ([(76, (5, 0, sb_76)), (16, (3, 0, sb_16)), (49, (2, 1, sb_49)), (66, (4, 0, sb_66)), (72, (2, 2, sb_72))] : mi_T), sc_P e.1 = some e.2 := mi_tb mi_P76 (mi_tb mi_P16 (mi_tb mi_P49 (mi_tb mi_P66 (mi_tb mi_P72 (mi_tb_e)))))
set_option maxRecDepth 20000 in
theorem ms_svD_0 {h : sm_H} {d : Nat} {Q : Option mi_V → sm_H → Prop} {zn zf za zk : Int} (hS : ab_Sh sx_sk h) (ok_zn : mi_in zn) (ok_zf : mi_in zf) (ok_za : mi_in za) (ok_zk : mi_in zk) (ho : (zf < ((0 : Int))) ∧ (((0 : Int)) ≤ zk) ∧ (-2147483648 ≤ zf + 1 ∧ zf + 1 ≤ 2147483647)) (kon : ∀ h1, me_W [] h h1 → me_E (d + 6) 76 27 [some (.inr (.inr 78)), some (.inl (zn)), some (.inl (zf + 1)), some (.inl (za)), some (.inl (zk))] [] h1 Q) : me_E (d + 6) 76 48 [some (.inr (.inr 78)), some (.inl (zn)), some (.inl (zf)), some (.inl (za)), some (.inl (zk))] [] h Q := mf_seg (mp_svD_0 h d zn zf za zk) (mi_tab_svD_0) hS (mi_okL_c (trivial) (mi_okL_c (ok_zn) (mi_okL_c (ok_zf) (mi_okL_c (ok_za) (mi_okL_c (ok_zk) (mi_okL_e)))))) (mi_okS_e) (mi_al (ho.1) (mi_al (ho.2.1) (mi_al (ho.2.2) (mi_al_e)))) (fun h1 W _ hst => kon h1 W)
set_option maxRecDepth 20000 in
theorem mp_svD_1 (h : sm_H) (d : Nat) (zn zf za zk : Int) : mj_path [(76, (5, 0, sb_76)), (16, (3, 0, sb_16)), (49, (2, 1, sb_49)), (66, (4, 0, sb_66)), (72, (2, 2, sb_72))] sx_sk h 16 [1, 0, 1] (d + 6, 76, 48, [some (.inr (.inr 78)), some (.inl (zn)), some (.inl (zf)), some (.inl (za)), some (.inl (zk))], [], [], []) = some ((d + 6, 76, 27, [some (.inr (.inr 78)), some (.inl (zn)), some (.inl (zf + 1)), some (.inl (za)), some (.inl (zk))], [], [], []), [zf < ((0 : Int)), zk < ((0 : Int)), ((6 : Int)) ≤ zk, -2147483648 ≤ zf + 1 ∧ zf + 1 ≤ 2147483647]) := rfl
theorem mi_tab_svD_1 : ∀ e ∈ ([(76, (5, 0, sb_76)), (16, (3, 0, sb_16)), (49, (2, 1, sb_49)), (66, (4, 0, sb_66)), (72, (2, 2, sb_72))] : mi_T), sc_P e.1 = some e.2 := mi_tb mi_P76 (mi_tb mi_P16 (mi_tb mi_P49 (mi_tb mi_P66 (mi_tb mi_P72 (mi_tb_e)))))
set_option maxRecDepth 20000 in
theorem ms_svD_1 {h : sm_H} {d : Nat} {Q : Option mi_V → sm_H → Prop} {zn zf za zk : Int} (hS : ab_Sh sx_sk h) (ok_zn : mi_in zn) (ok_zf : mi_in zf) (ok_za : mi_in za) (ok_zk : mi_in zk) (ho : (zf < ((0 : Int))) ∧ (zk < ((0 : Int))) ∧ (((6 : Int)) ≤ zk) ∧ (-2147483648 ≤ zf + 1 ∧ zf + 1 ≤ 2147483647)) (kon : ∀ h1, me_W [] h h1 → me_E (d + 6) 76 27 [some (.inr (.inr 78)), some (.inl (zn)), some (.inl (zf + 1)), some (.inl (za)), some (.inl (zk))] [] h1 Q) : me_E (d + 6) 76 48 [some (.inr (.inr 78)), some (.inl (zn)), some (.inl (zf)), some (.inl (za)), some (.inl (zk))] [] h Q := mf_seg (mp_svD_1 h d zn zf za zk) (mi_tab_svD_1) hS (mi_okL_c (trivial) (mi_okL_c (ok_zn) (mi_okL_c (ok_zf) (mi_okL_c (ok_za) (mi_okL_c (ok_zk) (mi_okL_e)))))) (mi_okS_e) (mi_al (ho.1) (mi_al (ho.2.1) (mi_al (ho.2.2.1) (mi_al (ho.2.2.2) (mi_al_e))))) (fun h1 W _ hst => kon h1 W)
set_option maxRecDepth 20000 in
theorem mp_svD_2 (h : sm_H) (d : Nat) (zn zf za zk : Int) : mj_path [(76, (5, 0, sb_76)), (16, (3, 0, sb_16)), (49, (2, 1, sb_49)), (66, (4, 0, sb_66)), (72, (2, 2, sb_72))] sx_sk h 24 [1, 0, 0, 1] (d + 6, 76, 48, [some (.inr (.inr 78)), some (.inl (zn)), some (.inl (zf)), some (.inl (za)), some (.inl (zk))], [], [], []) = some ((d + 6, 76, 81, [some (.inr (.inr 78)), some (.inl (zn)), some (.inl (zf)), some (.inl (za)), some (.inl (zk))], [.inr (.inl (Int64.ofNat 0)), .inl (za), .inr (.inr 78)], [], []), [zf < ((0 : Int)), zk < ((0 : Int)), zk < ((6 : Int)), zf < ((0 : Int))]) := rfl
theorem mi_tab_svD_2 : ∀ e ∈ ([(76, (5, 0, sb_76)), (16, (3, 0, sb_16)), (49, (2, 1, sb_49)), (66, (4, 0, sb_66)), (72, (2, 2, sb_72))] : mi_T), sc_P e.1 = some e.2 := mi_tb mi_P76 (mi_tb mi_P16 (mi_tb mi_P49 (mi_tb mi_P66 (mi_tb mi_P72 (mi_tb_e)))))
set_option maxRecDepth 20000 in
theorem ms_svD_2 {h : sm_H} {d : Nat} {Q : Option mi_V → sm_H → Prop} {zn zf za zk : Int} (hS : ab_Sh sx_sk h) (ok_zn : mi_in zn) (ok_zf : mi_in zf) (ok_za : mi_in za) (ok_zk : mi_in zk) (ho : (zf < ((0 : Int))) ∧ (zk < ((0 : Int))) ∧ (zk < ((6 : Int))) ∧ (zf < ((0 : Int)))) (kon : ∀ h1, me_W [] h h1 → ∃ Q1, me_E (d + 5) 77 0 (mi_entry 12 [.inr (.inr 78), .inl (za), .inr (.inl (Int64.ofNat 0))]) [] h1 Q1 ∧ ∀ w h2, (∀ x, w = some x → mi_ok x) → Q1 w h2 → me_E (d + 6) 76 84 [some (.inr (.inr 78)), some (.inl (zn)), some (.inl (zf)), some (.inl (za)), some (.inl (zk))] (mi_back w []) h2 Q) : me_E (d + 6) 76 48 [some (.inr (.inr 78)), some (.inl (zn)), some (.inl (zf)), some (.inl (za)), some (.inl (zk))] [] h Q := mf_seg (mp_svD_2 h d zn zf za zk) (mi_tab_svD_2) hS (mi_okL_c (trivial) (mi_okL_c (ok_zn) (mi_okL_c (ok_zf) (mi_okL_c (ok_za) (mi_okL_c (ok_zk) (mi_okL_e)))))) (mi_okS_e) (mi_al (ho.1) (mi_al (ho.2.1) (mi_al (ho.2.2.1) (mi_al (ho.2.2.2) (mi_al_e))))) (fun h1 W _ hst => let ⟨_, k1, k2⟩ := kon h1 W; mf_call (M := (5, 0, sb_76)) (M' := (12, 0, sb_77)) rfl rfl rfl rfl (Nat.le_of_ble_eq_true rfl) (Nat.le_of_ble_eq_true rfl) W.1 k1 k2)
set_option maxRecDepth 20000 in
theorem mp_svD_3 (h : sm_H) (d : Nat) (zn zf za zk : Int) : mj_path [(76, (5, 0, sb_76)), (16, (3, 0, sb_16)), (49, (2, 1, sb_49)), (66, (4, 0, sb_66)), (72, (2, 2, sb_72))] sx_sk h 17 [0, 1, 1] (d + 6, 76, 48, [some (.inr (.inr 78)), some (.inl (zn)), some (.inl (zf)), some (.inl (za)), some (.inl (zk))], [], [], []) = some ((d + 6, 76, 27, [some (.inr (.inr 78)), some (.inl (zn)), some (.inl (zf + 1)), some (.inl (za)), some (.inl (zk))], [], [], []), [((0 : Int)) ≤ zf, ((70 : Int)) ≤ zf, ((0 : Int)) ≤ zk, -2147483648 ≤ zf + 1 ∧ zf + 1 ≤ 2147483647]) := rfl
theorem mi_tab_svD_3 : ∀ e ∈ ([(76, (5, 0, sb_76)), (16, (3, 0, sb_16)), (49, (2, 1, sb_49)), (66, (4, 0, sb_66)), (72, (2, 2, sb_72))] : mi_T), sc_P e.1 = some e.2 := mi_tb mi_P76 (mi_tb mi_P16 (mi_tb mi_P49 (mi_tb mi_P66 (mi_tb mi_P72 (mi_tb_e)))))
set_option maxRecDepth 20000 in
theorem ms_svD_3 {h : sm_H} {d : Nat} {Q : Option mi_V → sm_H → Prop} {zn zf za zk : Int} (hS : ab_Sh sx_sk h) (ok_zn : mi_in zn) (ok_zf : mi_in zf) (ok_za : mi_in za) (ok_zk : mi_in zk) (ho : (((0 : Int)) ≤ zf) ∧ (((70 : Int)) ≤ zf) ∧ (((0 : Int)) ≤ zk) ∧ (-2147483648 ≤ zf + 1 ∧ zf + 1 ≤ 2147483647)) (kon : ∀ h1, me_W [] h h1 → me_E (d + 6) 76 27 [some (.inr (.inr 78)), some (.inl (zn)), some (.inl (zf + 1)), some (.inl (za)), some (.inl (zk))] [] h1 Q) : me_E (d + 6) 76 48 [some (.inr (.inr 78)), some (.inl (zn)), some (.inl (zf)), some (.inl (za)), some (.inl (zk))] [] h Q := mf_seg (mp_svD_3 h d zn zf za zk) (mi_tab_svD_3) hS (mi_okL_c (trivial) (mi_okL_c (ok_zn) (mi_okL_c (ok_zf) (mi_okL_c (ok_za) (mi_okL_c (ok_zk) (mi_okL_e)))))) (mi_okS_e) (mi_al (ho.1) (mi_al (ho.2.1) (mi_al (ho.2.2.1) (mi_al (ho.2.2.2) (mi_al_e))))) (fun h1 W _ hst => kon h1 W)
set_option maxRecDepth 20000 in
theorem mp_svD_4 (h : sm_H) (d : Nat) (zn zf za zk : Int) : mj_path [(76, (5, 0, sb_76)), (16, (3, 0, sb_16)), (49, (2, 1, sb_49)), (66, (4, 0, sb_66)), (72, (2, 2, sb_72))] sx_sk h 20 [0, 1, 0, 1] (d + 6, 76, 48, [some (.inr (.inr 78)), some (.inl (zn)), some (.inl (zf)), some (.inl (za)), some (.inl (zk))], [], [], []) = some ((d + 6, 76, 27, [some (.inr (.inr 78)), some (.inl (zn)), some (.inl (zf + 1)), some (.inl (za)), some (.inl (zk))], [], [], []), [((0 : Int)) ≤ zf, ((70 : Int)) ≤ zf, zk < ((0 : Int)), ((6 : Int)) ≤ zk, -2147483648 ≤ zf + 1 ∧ zf + 1 ≤ 2147483647]) := rfl
theorem mi_tab_svD_4 : ∀ e ∈ ([(76, (5, 0, sb_76)), (16, (3, 0, sb_16)), (49, (2, 1, sb_49)), (66, (4, 0, sb_66)), (72, (2, 2, sb_72))] : mi_T), sc_P e.1 = some e.2 := mi_tb mi_P76 (mi_tb mi_P16 (mi_tb mi_P49 (mi_tb mi_P66 (mi_tb mi_P72 (mi_tb_e)))))
set_option maxRecDepth 20000 in
theorem ms_svD_4 {h : sm_H} {d : Nat} {Q : Option mi_V → sm_H → Prop} {zn zf za zk : Int} (hS : ab_Sh sx_sk h) (ok_zn : mi_in zn) (ok_zf : mi_in zf) (ok_za : mi_in za) (ok_zk : mi_in zk) (ho : (((0 : Int)) ≤ zf) ∧ (((70 : Int)) ≤ zf) ∧ (zk < ((0 : Int))) ∧ (((6 : Int)) ≤ zk) ∧ (-2147483648 ≤ zf + 1 ∧ zf + 1 ≤ 2147483647)) (kon : ∀ h1, me_W [] h h1 → me_E (d + 6) 76 27 [some (.inr (.inr 78)), some (.inl (zn)), some (.inl (zf + 1)), some (.inl (za)), some (.inl (zk))] [] h1 Q) : me_E (d + 6) 76 48 [some (.inr (.inr 78)), some (.inl (zn)), some (.inl (zf)), some (.inl (za)), some (.inl (zk))] [] h Q := mf_seg (mp_svD_4 h d zn zf za zk) (mi_tab_svD_4) hS (mi_okL_c (trivial) (mi_okL_c (ok_zn) (mi_okL_c (ok_zf) (mi_okL_c (ok_za) (mi_okL_c (ok_zk) (mi_okL_e)))))) (mi_okS_e) (mi_al (ho.1) (mi_al (ho.2.1) (mi_al (ho.2.2.1) (mi_al (ho.2.2.2.1) (mi_al (ho.2.2.2.2) (mi_al_e)))))) (fun h1 W _ hst => kon h1 W)
set_option maxRecDepth 20000 in
theorem mp_svD_5 (h : sm_H) (d : Nat) (zn zf za zk : Int) : mj_path [(76, (5, 0, sb_76)), (16, (3, 0, sb_16)), (49, (2, 1, sb_49)), (66, (4, 0, sb_66)), (72, (2, 2, sb_72))] sx_sk h 32 [0, 1, 0, 0, 0, 1] (d + 6, 76, 48, [some (.inr (.inr 78)), some (.inl (zn)), some (.inl (zf)), some (.inl (za)), some (.inl (zk))], [], [], []) = some ((d + 6, 76, 81, [some (.inr (.inr 78)), some (.inl (zn)), some (.inl (zf)), some (.inl (za)), some (.inl (zk))], [.inr (.inl (Int64.ofNat 0)), .inl (za), .inr (.inr 78)], [], []), [((0 : Int)) ≤ zf, ((70 : Int)) ≤ zf, zk < ((0 : Int)), zk < ((6 : Int)), ((0 : Int)) ≤ zf, ((70 : Int)) ≤ zf]) := rfl
theorem mi_tab_svD_5 : ∀ e ∈ ([(76, (5, 0, sb_76)), (16, (3, 0, sb_16)), (49, (2, 1, sb_49)), (66, (4, 0, sb_66)), (72, (2, 2, sb_72))] : mi_T), sc_P e.1 = some e.2 := mi_tb mi_P76 (mi_tb mi_P16 (mi_tb mi_P49 (mi_tb mi_P66 (mi_tb mi_P72 (mi_tb_e)))))
set_option maxRecDepth 20000 in
theorem ms_svD_5 {h : sm_H} {d : Nat} {Q : Option mi_V → sm_H → Prop} {zn zf za zk : Int} (hS : ab_Sh sx_sk h) (ok_zn : mi_in zn) (ok_zf : mi_in zf) (ok_za : mi_in za) (ok_zk : mi_in zk) (ho : (((0 : Int)) ≤ zf) ∧ (((70 : Int)) ≤ zf) ∧ (zk < ((0 : Int))) ∧ (zk < ((6 : Int))) ∧ (((0 : Int)) ≤ zf) ∧ (((70 : Int)) ≤ zf)) (kon : ∀ h1, me_W [] h h1 → ∃ Q1, me_E (d + 5) 77 0 (mi_entry 12 [.inr (.inr 78), .inl (za), .inr (.inl (Int64.ofNat 0))]) [] h1 Q1 ∧ ∀ w h2, (∀ x, w = some x → mi_ok x) → Q1 w h2 → me_E (d + 6) 76 84 [some (.inr (.inr 78)), some (.inl (zn)), some (.inl (zf)), some (.inl (za)), some (.inl (zk))] (mi_back w []) h2 Q) : me_E (d + 6) 76 48 [some (.inr (.inr 78)), some (.inl (zn)), some (.inl (zf)), some (.inl (za)), some (.inl (zk))] [] h Q := mf_seg (mp_svD_5 h d zn zf za zk) (mi_tab_svD_5) hS (mi_okL_c (trivial) (mi_okL_c (ok_zn) (mi_okL_c (ok_zf) (mi_okL_c (ok_za) (mi_okL_c (ok_zk) (mi_okL_e)))))) (mi_okS_e) (mi_al (ho.1) (mi_al (ho.2.1) (mi_al (ho.2.2.1) (mi_al (ho.2.2.2.1) (mi_al (ho.2.2.2.2.1) (mi_al (ho.2.2.2.2.2) (mi_al_e))))))) (fun h1 W _ hst => let ⟨_, k1, k2⟩ := kon h1 W; mf_call (M := (5, 0, sb_76)) (M' := (12, 0, sb_77)) rfl rfl rfl rfl (Nat.le_of_ble_eq_true rfl) (Nat.le_of_ble_eq_true rfl) W.1 k1 k2)
set_option maxRecDepth 20000 in
theorem mp_svD_6 (h : sm_H) (d : Nat) (zn zf za zk : Int) : mj_path [(76, (5, 0, sb_76)), (16, (3, 0, sb_16)), (49, (2, 1, sb_49)), (66, (4, 0, sb_66)), (72, (2, 2, sb_72))] sx_sk h 20 [0, 0, 1] (d + 6, 76, 48, [some (.inr (.inr 78)), some (.inl (zn)), some (.inl (zf)), some (.inl (za)), some (.inl (zk))], [], [], []) = some ((d + 6, 76, 27, [some (.inr (.inr 78)), some (.inl (zn)), some (.inl (zf + 1)), some (.inl (za)), some (.inl (zk))], [], [], []), [((0 : Int)) ≤ zf, zf < ((70 : Int)), 0 ≤ zf ∧ zf < 70, (mi_a h 64 (Int.toNat zf)) ≤ zk, -2147483648 ≤ zf + 1 ∧ zf + 1 ≤ 2147483647]) := rfl
theorem mi_tab_svD_6 : ∀ e ∈ ([(76, (5, 0, sb_76)), (16, (3, 0, sb_16)), (49, (2, 1, sb_49)), (66, (4, 0, sb_66)), (72, (2, 2, sb_72))] : mi_T), sc_P e.1 = some e.2 := mi_tb mi_P76 (mi_tb mi_P16 (mi_tb mi_P49 (mi_tb mi_P66 (mi_tb mi_P72 (mi_tb_e)))))
set_option maxRecDepth 20000 in
theorem ms_svD_6 {h : sm_H} {d : Nat} {Q : Option mi_V → sm_H → Prop} {zn zf za zk : Int} (hS : ab_Sh sx_sk h) (ok_zn : mi_in zn) (ok_zf : mi_in zf) (ok_za : mi_in za) (ok_zk : mi_in zk) (ho : (((0 : Int)) ≤ zf) ∧ (zf < ((70 : Int))) ∧ (0 ≤ zf ∧ zf < 70) ∧ ((mi_a h 64 (Int.toNat zf)) ≤ zk) ∧ (-2147483648 ≤ zf + 1 ∧ zf + 1 ≤ 2147483647)) (kon : ∀ h1, me_W [] h h1 → me_E (d + 6) 76 27 [some (.inr (.inr 78)), some (.inl (zn)), some (.inl (zf + 1)), some (.inl (za)), some (.inl (zk))] [] h1 Q) : me_E (d + 6) 76 48 [some (.inr (.inr 78)), some (.inl (zn)), some (.inl (zf)), some (.inl (za)), some (.inl (zk))] [] h Q := mf_seg (mp_svD_6 h d zn zf za zk) (mi_tab_svD_6) hS (mi_okL_c (trivial) (mi_okL_c (ok_zn) (mi_okL_c (ok_zf) (mi_okL_c (ok_za) (mi_okL_c (ok_zk) (mi_okL_e)))))) (mi_okS_e) (mi_al (ho.1) (mi_al (ho.2.1) (mi_al (ho.2.2.1) (mi_al (ho.2.2.2.1) (mi_al (ho.2.2.2.2) (mi_al_e)))))) (fun h1 W _ hst => kon h1 W)
set_option maxRecDepth 20000 in
theorem mp_svD_7 (h : sm_H) (d : Nat) (zn zf za zk : Int) : mj_path [(76, (5, 0, sb_76)), (16, (3, 0, sb_16)), (49, (2, 1, sb_49)), (66, (4, 0, sb_66)), (72, (2, 2, sb_72))] sx_sk h 23 [0, 0, 0, 1] (d + 6, 76, 48, [some (.inr (.inr 78)), some (.inl (zn)), some (.inl (zf)), some (.inl (za)), some (.inl (zk))], [], [], []) = some ((d + 6, 76, 27, [some (.inr (.inr 78)), some (.inl (zn)), some (.inl (zf + 1)), some (.inl (za)), some (.inl (zk))], [], [], []), [((0 : Int)) ≤ zf, zf < ((70 : Int)), 0 ≤ zf ∧ zf < 70, zk < (mi_a h 64 (Int.toNat zf)), ((6 : Int)) ≤ zk, -2147483648 ≤ zf + 1 ∧ zf + 1 ≤ 2147483647]) := rfl
theorem mi_tab_svD_7 : ∀ e ∈ ([(76, (5, 0, sb_76)), (16, (3, 0, sb_16)), (49, (2, 1, sb_49)), (66, (4, 0, sb_66)), (72, (2, 2, sb_72))] : mi_T), sc_P e.1 = some e.2 := mi_tb mi_P76 (mi_tb mi_P16 (mi_tb mi_P49 (mi_tb mi_P66 (mi_tb mi_P72 (mi_tb_e)))))
set_option maxRecDepth 20000 in
theorem ms_svD_7 {h : sm_H} {d : Nat} {Q : Option mi_V → sm_H → Prop} {zn zf za zk : Int} (hS : ab_Sh sx_sk h) (ok_zn : mi_in zn) (ok_zf : mi_in zf) (ok_za : mi_in za) (ok_zk : mi_in zk) (ho : (((0 : Int)) ≤ zf) ∧ (zf < ((70 : Int))) ∧ (0 ≤ zf ∧ zf < 70) ∧ (zk < (mi_a h 64 (Int.toNat zf))) ∧ (((6 : Int)) ≤ zk) ∧ (-2147483648 ≤ zf + 1 ∧ zf + 1 ≤ 2147483647)) (kon : ∀ h1, me_W [] h h1 → me_E (d + 6) 76 27 [some (.inr (.inr 78)), some (.inl (zn)), some (.inl (zf + 1)), some (.inl (za)), some (.inl (zk))] [] h1 Q) : me_E (d + 6) 76 48 [some (.inr (.inr 78)), some (.inl (zn)), some (.inl (zf)), some (.inl (za)), some (.inl (zk))] [] h Q := mf_seg (mp_svD_7 h d zn zf za zk) (mi_tab_svD_7) hS (mi_okL_c (trivial) (mi_okL_c (ok_zn) (mi_okL_c (ok_zf) (mi_okL_c (ok_za) (mi_okL_c (ok_zk) (mi_okL_e)))))) (mi_okS_e) (mi_al (ho.1) (mi_al (ho.2.1) (mi_al (ho.2.2.1) (mi_al (ho.2.2.2.1) (mi_al (ho.2.2.2.2.1) (mi_al (ho.2.2.2.2.2) (mi_al_e))))))) (fun h1 W _ hst => kon h1 W)
set_option maxRecDepth 20000 in
theorem mp_svD_8 (h : sm_H) (d : Nat) (zn zf za zk : Int) : mj_path [(76, (5, 0, sb_76)), (16, (3, 0, sb_16)), (49, (2, 1, sb_49)), (66, (4, 0, sb_66)), (72, (2, 2, sb_72))] sx_sk h 38 [0, 0, 0, 0, 0, 0] (d + 6, 76, 48, [some (.inr (.inr 78)), some (.inl (zn)), some (.inl (zf)), some (.inl (za)), some (.inl (zk))], [], [], []) = some ((d + 6, 76, 81, [some (.inr (.inr 78)), some (.inl (zn)), some (.inl (zf)), some (.inl (za)), some (.inl (zk))], [.inr (.inl (mx_b h 81 (Int.toNat zf))), .inl (za), .inr (.inr 78)], [], []), [((0 : Int)) ≤ zf, zf < ((70 : Int)), 0 ≤ zf ∧ zf < 70, zk < (mi_a h 64 (Int.toNat zf)), zk < ((6 : Int)), ((0 : Int)) ≤ zf, zf < ((70 : Int)), 0 ≤ zf ∧ zf < 70]) := rfl
theorem mi_tab_svD_8 : ∀ e ∈ ([(76, (5, 0, sb_76)), (16, (3, 0, sb_16)), (49, (2, 1, sb_49)), (66, (4, 0, sb_66)), (72, (2, 2, sb_72))] : mi_T), sc_P e.1 = some e.2 := mi_tb mi_P76 (mi_tb mi_P16 (mi_tb mi_P49 (mi_tb mi_P66 (mi_tb mi_P72 (mi_tb_e)))))
set_option maxRecDepth 20000 in
theorem ms_svD_8 {h : sm_H} {d : Nat} {Q : Option mi_V → sm_H → Prop} {zn zf za zk : Int} (hS : ab_Sh sx_sk h) (ok_zn : mi_in zn) (ok_zf : mi_in zf) (ok_za : mi_in za) (ok_zk : mi_in zk) (ho : (((0 : Int)) ≤ zf) ∧ (zf < ((70 : Int))) ∧ (0 ≤ zf ∧ zf < 70) ∧ (zk < (mi_a h 64 (Int.toNat zf))) ∧ (zk < ((6 : Int))) ∧ (((0 : Int)) ≤ zf) ∧ (zf < ((70 : Int))) ∧ (0 ≤ zf ∧ zf < 70)) (kon : ∀ h1, me_W [] h h1 → ∃ Q1, me_E (d + 5) 77 0 (mi_entry 12 [.inr (.inr 78), .inl (za), .inr (.inl (mx_b h 81 (Int.toNat zf)))]) [] h1 Q1 ∧ ∀ w h2, (∀ x, w = some x → mi_ok x) → Q1 w h2 → me_E (d + 6) 76 84 [some (.inr (.inr 78)), some (.inl (zn)), some (.inl (zf)), some (.inl (za)), some (.inl (zk))] (mi_back w []) h2 Q) : me_E (d + 6) 76 48 [some (.inr (.inr 78)), some (.inl (zn)), some (.inl (zf)), some (.inl (za)), some (.inl (zk))] [] h Q := mf_seg (mp_svD_8 h d zn zf za zk) (mi_tab_svD_8) hS (mi_okL_c (trivial) (mi_okL_c (ok_zn) (mi_okL_c (ok_zf) (mi_okL_c (ok_za) (mi_okL_c (ok_zk) (mi_okL_e)))))) (mi_okS_e) (mi_al (ho.1) (mi_al (ho.2.1) (mi_al (ho.2.2.1) (mi_al (ho.2.2.2.1) (mi_al (ho.2.2.2.2.1) (mi_al (ho.2.2.2.2.2.1) (mi_al (ho.2.2.2.2.2.2.1) (mi_al (ho.2.2.2.2.2.2.2) (mi_al_e))))))))) (fun h1 W _ hst => let ⟨_, k1, k2⟩ := kon h1 W; mf_call (M := (5, 0, sb_76)) (M' := (12, 0, sb_77)) rfl rfl rfl rfl (Nat.le_of_ble_eq_true rfl) (Nat.le_of_ble_eq_true rfl) W.1 k1 k2)
set_option maxRecDepth 20000 in
theorem mt_svD {h : sm_H} {d : Nat} {Q : Option mi_V → sm_H → Prop} {zn zf za zk : Int} (hS : ab_Sh sx_sk h) (ok_zn : mi_in zn) (ok_zf : mi_in zf) (ok_za : mi_in za) (ok_zk : mi_in zk) (k0 : (zf < ((0 : Int))) → (((0 : Int)) ≤ zk) → ((-2147483648 ≤ zf + 1 ∧ zf + 1 ≤ 2147483647)) ∧ (∀ h1, ab_Sh sx_sk h1 → ab_Fr [] h h1 → me_E (d + 6) 76 27 [some (.inr (.inr 78)), some (.inl (zn)), some (.inl (zf + 1)), some (.inl (za)), some (.inl (zk))] [] h1 Q)) (k1 : (zf < ((0 : Int))) → (zk < ((0 : Int))) → (((6 : Int)) ≤ zk) → ((-2147483648 ≤ zf + 1 ∧ zf + 1 ≤ 2147483647)) ∧ (∀ h1, ab_Sh sx_sk h1 → ab_Fr [] h h1 → me_E (d + 6) 76 27 [some (.inr (.inr 78)), some (.inl (zn)), some (.inl (zf + 1)), some (.inl (za)), some (.inl (zk))] [] h1 Q)) (k2 : (zf < ((0 : Int))) → (zk < ((0 : Int))) → (zk < ((6 : Int))) → (∀ h1, ab_Sh sx_sk h1 → ab_Fr [] h h1 → ∃ Q1, me_E (d + 5) 77 0 (mi_entry 12 [.inr (.inr 78), .inl (za), .inr (.inl (Int64.ofNat 0))]) [] h1 Q1 ∧ ∀ w h2, (∀ x, w = some x → mi_ok x) → Q1 w h2 → me_E (d + 6) 76 84 [some (.inr (.inr 78)), some (.inl (zn)), some (.inl (zf)), some (.inl (za)), some (.inl (zk))] (mi_back w []) h2 Q)) (k3 : (((0 : Int)) ≤ zf) → (((70 : Int)) ≤ zf) → (((0 : Int)) ≤ zk) → ((-2147483648 ≤ zf + 1 ∧ zf + 1 ≤ 2147483647)) ∧ (∀ h1, ab_Sh sx_sk h1 → ab_Fr [] h h1 → me_E (d + 6) 76 27 [some (.inr (.inr 78)), some (.inl (zn)), some (.inl (zf + 1)), some (.inl (za)), some (.inl (zk))] [] h1 Q)) (k4 : (((0 : Int)) ≤ zf) → (((70 : Int)) ≤ zf) → (zk < ((0 : Int))) → (((6 : Int)) ≤ zk) → ((-2147483648 ≤ zf + 1 ∧ zf + 1 ≤ 2147483647)) ∧ (∀ h1, ab_Sh sx_sk h1 → ab_Fr [] h h1 → me_E (d + 6) 76 27 [some (.inr (.inr 78)), some (.inl (zn)), some (.inl (zf + 1)), some (.inl (za)), some (.inl (zk))] [] h1 Q)) (k5 : (((0 : Int)) ≤ zf) → (((70 : Int)) ≤ zf) → (zk < ((0 : Int))) → (zk < ((6 : Int))) → (∀ h1, ab_Sh sx_sk h1 → ab_Fr [] h h1 → ∃ Q1, me_E (d + 5) 77 0 (mi_entry 12 [.inr (.inr 78), .inl (za), .inr (.inl (Int64.ofNat 0))]) [] h1 Q1 ∧ ∀ w h2, (∀ x, w = some x → mi_ok x) → Q1 w h2 → me_E (d + 6) 76 84 [some (.inr (.inr 78)), some (.inl (zn)), some (.inl (zf)), some (.inl (za)), some (.inl (zk))] (mi_back w []) h2 Q)) (k6 : (((0 : Int)) ≤ zf) → (zf < ((70 : Int))) → ((mi_a h 64 (Int.toNat zf)) ≤ zk) → ((0 ≤ zf ∧ zf < 70) ∧ (-2147483648 ≤ zf + 1 ∧ zf + 1 ≤ 2147483647)) ∧ (∀ h1, ab_Sh sx_sk h1 → ab_Fr [] h h1 → me_E (d + 6) 76 27 [some (.inr (.inr 78)), some (.inl (zn)), some (.inl (zf + 1)), some (.inl (za)), some (.inl (zk))] [] h1 Q)) (k7 : (((0 : Int)) ≤ zf) → (zf < ((70 : Int))) → (zk < (mi_a h 64 (Int.toNat zf))) → (((6 : Int)) ≤ zk) → ((0 ≤ zf ∧ zf < 70) ∧ (-2147483648 ≤ zf + 1 ∧ zf + 1 ≤ 2147483647)) ∧ (∀ h1, ab_Sh sx_sk h1 → ab_Fr [] h h1 → me_E (d + 6) 76 27 [some (.inr (.inr 78)), some (.inl (zn)), some (.inl (zf + 1)), some (.inl (za)), some (.inl (zk))] [] h1 Q)) (k8 : (((0 : Int)) ≤ zf) → (zf < ((70 : Int))) → (zk < (mi_a h 64 (Int.toNat zf))) → (zk < ((6 : Int))) → ((0 ≤ zf ∧ zf < 70)) ∧ (∀ h1, ab_Sh sx_sk h1 → ab_Fr [] h h1 → ∃ Q1, me_E (d + 5) 77 0 (mi_entry 12 [.inr (.inr 78), .inl (za), .inr (.inl (mx_b h 81 (Int.toNat zf)))]) [] h1 Q1 ∧ ∀ w h2, (∀ x, w = some x → mi_ok x) → Q1 w h2 → me_E (d + 6) 76 84 [some (.inr (.inr 78)), some (.inl (zn)), some (.inl (zf)), some (.inl (za)), some (.inl (zk))] (mi_back w []) h2 Q)) : me_E (d + 6) 76 48 [some (.inr (.inr 78)), some (.inl (zn)), some (.inl (zf)), some (.inl (za)), some (.inl (zk))] [] h Q := Or.elim (mi_em .lt (zf) (((0 : Int)))) (fun c0 => Or.elim (mi_em .ge (zk) (((0 : Int)))) (fun c1 => ms_svD_0 hS ok_zn ok_zf ok_za ok_zk ⟨c0, c1, (k0 c0 c1).1⟩ (fun h1 W => (k0 c0 c1).2 h1 W.1 (W.2.2.2.2.2 _ rfl))) (fun c1 => Or.elim (mi_em .ge (zk) (((6 : Int)))) (fun c2 => ms_svD_1 hS ok_zn ok_zf ok_za ok_zk ⟨c0, c1, c2, (k1 c0 c1 c2).1⟩ (fun h1 W => (k1 c0 c1 c2).2 h1 W.1 (W.2.2.2.2.2 _ rfl))) (fun c2 => ms_svD_2 hS ok_zn ok_zf ok_za ok_zk ⟨c0, c1, c2, c0⟩ (fun h1 W => (k2 c0 c1 c2) h1 W.1 (W.2.2.2.2.2 _ rfl))))) (fun c0 => Or.elim (mi_em .ge (zf) (((70 : Int)))) (fun c1 => Or.elim (mi_em .ge (zk) (((0 : Int)))) (fun c2 => ms_svD_3 hS ok_zn ok_zf ok_za ok_zk ⟨c0, c1, c2, (k3 c0 c1 c2).1⟩ (fun h1 W => (k3 c0 c1 c2).2 h1 W.1 (W.2.2.2.2.2 _ rfl))) (fun c2 => Or.elim (mi_em .ge (zk) (((6 : Int)))) (fun c3 => ms_svD_4 hS ok_zn ok_zf ok_za ok_zk ⟨c0, c1, c2, c3, (k4 c0 c1 c2 c3).1⟩ (fun h1 W => (k4 c0 c1 c2 c3).2 h1 W.1 (W.2.2.2.2.2 _ rfl))) (fun c3 => ms_svD_5 hS ok_zn ok_zf ok_za ok_zk ⟨c0, c1, c2, c3, c0, c1⟩ (fun h1 W => (k5 c0 c1 c2 c3) h1 W.1 (W.2.2.2.2.2 _ rfl))))) (fun c1 => Or.elim (mi_em .ge (zk) ((mi_a h 64 (Int.toNat zf)))) (fun c2 => ms_svD_6 hS ok_zn ok_zf ok_za ok_zk ⟨c0, c1, (k6 c0 c1 c2).1.1, c2, (k6 c0 c1 c2).1.2⟩ (fun h1 W => (k6 c0 c1 c2).2 h1 W.1 (W.2.2.2.2.2 _ rfl))) (fun c2 => Or.elim (mi_em .ge (zk) (((6 : Int)))) (fun c3 => ms_svD_7 hS ok_zn ok_zf ok_za ok_zk ⟨c0, c1, (k7 c0 c1 c2 c3).1.1, c2, c3, (k7 c0 c1 c2 c3).1.2⟩ (fun h1 W => (k7 c0 c1 c2 c3).2 h1 W.1 (W.2.2.2.2.2 _ rfl))) (fun c3 => ms_svD_8 hS ok_zn ok_zf ok_za ok_zk ⟨c0, c1, (k8 c0 c1 c2 c3).1, c2, c3, c0, c1, (k8 c0 c1 c2 c3).1⟩ (fun h1 W => (k8 c0 c1 c2 c3).2 h1 W.1 (W.2.2.2.2.2 _ rfl))))))
set_option maxRecDepth 20000 in
theorem mp_svE_0 (h : sm_H) (d : Nat) (zn zf za zk : Int) : mj_path [(76, (5, 0, sb_76)), (16, (3, 0, sb_16)), (49, (2, 1, sb_49)), (66, (4, 0, sb_66)), (72, (2, 2, sb_72))] sx_sk h 12 [1] (d + 6, 76, 84, [some (.inr (.inr 78)), some (.inl (zn)), some (.inl (zf)), some (.inl (za)), some (.inl (zk))], [], [], []) = some ((d + 6, 76, 48, [some (.inr (.inr 78)), some (.inl (zn)), some (.inl (zf)), some (.inl ((0 : Int))), some (.inl (zk + 1))], [], [], []), [za < ((0 : Int)), -2147483648 ≤ zk + 1 ∧ zk + 1 ≤ 2147483647]) := rfl
theorem mi_tab_svE_0 : ∀ e ∈ ([(76, (5, 0, sb_76)), (16, (3, 0, sb_16)), (49, (2, 1, sb_49)), (66, (4, 0, sb_66)), (72, (2, 2, sb_72))] : mi_T), sc_P e.1 = some e.2 := mi_tb mi_P76 (mi_tb mi_P16 (mi_tb mi_P49 (mi_tb mi_P66 (mi_tb mi_P72 (mi_tb_e)))))
set_option maxRecDepth 20000 in
theorem ms_svE_0 {h : sm_H} {d : Nat} {Q : Option mi_V → sm_H → Prop} {zn zf za zk : Int} (hS : ab_Sh sx_sk h) (ok_zn : mi_in zn) (ok_zf : mi_in zf) (ok_za : mi_in za) (ok_zk : mi_in zk) (ho : (za < ((0 : Int))) ∧ (-2147483648 ≤ zk + 1 ∧ zk + 1 ≤ 2147483647)) (kon : ∀ h1, me_W [] h h1 → me_E (d + 6) 76 48 [some (.inr (.inr 78)), some (.inl (zn)), some (.inl (zf)), some (.inl ((0 : Int))), some (.inl (zk + 1))] [] h1 Q) : me_E (d + 6) 76 84 [some (.inr (.inr 78)), some (.inl (zn)), some (.inl (zf)), some (.inl (za)), some (.inl (zk))] [] h Q := mf_seg (mp_svE_0 h d zn zf za zk) (mi_tab_svE_0) hS (mi_okL_c (trivial) (mi_okL_c (ok_zn) (mi_okL_c (ok_zf) (mi_okL_c (ok_za) (mi_okL_c (ok_zk) (mi_okL_e)))))) (mi_okS_e) (mi_al (ho.1) (mi_al (ho.2) (mi_al_e))) (fun h1 W _ hst => kon h1 W)
set_option maxRecDepth 20000 in
theorem mp_svE_1 (h : sm_H) (d : Nat) (zn zf za zk : Int) : mj_path [(76, (5, 0, sb_76)), (16, (3, 0, sb_16)), (49, (2, 1, sb_49)), (66, (4, 0, sb_66)), (72, (2, 2, sb_72))] sx_sk h 16 [0, 1] (d + 6, 76, 84, [some (.inr (.inr 78)), some (.inl (zn)), some (.inl (zf)), some (.inl (za)), some (.inl (zk))], [], [], []) = some ((d + 6, 76, 48, [some (.inr (.inr 78)), some (.inl (zn)), some (.inl (zf)), some (.inl ((0 : Int))), some (.inl (zk + 1))], [], [], []), [((0 : Int)) ≤ za, ((66 : Int)) ≤ za, -2147483648 ≤ zk + 1 ∧ zk + 1 ≤ 2147483647]) := rfl
theorem mi_tab_svE_1 : ∀ e ∈ ([(76, (5, 0, sb_76)), (16, (3, 0, sb_16)), (49, (2, 1, sb_49)), (66, (4, 0, sb_66)), (72, (2, 2, sb_72))] : mi_T), sc_P e.1 = some e.2 := mi_tb mi_P76 (mi_tb mi_P16 (mi_tb mi_P49 (mi_tb mi_P66 (mi_tb mi_P72 (mi_tb_e)))))
set_option maxRecDepth 20000 in
theorem ms_svE_1 {h : sm_H} {d : Nat} {Q : Option mi_V → sm_H → Prop} {zn zf za zk : Int} (hS : ab_Sh sx_sk h) (ok_zn : mi_in zn) (ok_zf : mi_in zf) (ok_za : mi_in za) (ok_zk : mi_in zk) (ho : (((0 : Int)) ≤ za) ∧ (((66 : Int)) ≤ za) ∧ (-2147483648 ≤ zk + 1 ∧ zk + 1 ≤ 2147483647)) (kon : ∀ h1, me_W [] h h1 → me_E (d + 6) 76 48 [some (.inr (.inr 78)), some (.inl (zn)), some (.inl (zf)), some (.inl ((0 : Int))), some (.inl (zk + 1))] [] h1 Q) : me_E (d + 6) 76 84 [some (.inr (.inr 78)), some (.inl (zn)), some (.inl (zf)), some (.inl (za)), some (.inl (zk))] [] h Q := mf_seg (mp_svE_1 h d zn zf za zk) (mi_tab_svE_1) hS (mi_okL_c (trivial) (mi_okL_c (ok_zn) (mi_okL_c (ok_zf) (mi_okL_c (ok_za) (mi_okL_c (ok_zk) (mi_okL_e)))))) (mi_okS_e) (mi_al (ho.1) (mi_al (ho.2.1) (mi_al (ho.2.2) (mi_al_e)))) (fun h1 W _ hst => kon h1 W)
set_option maxRecDepth 20000 in
theorem mp_svE_2 (h : sm_H) (d : Nat) (zn zf za zk : Int) : mj_path [(76, (5, 0, sb_76)), (16, (3, 0, sb_16)), (49, (2, 1, sb_49)), (66, (4, 0, sb_66)), (72, (2, 2, sb_72))] sx_sk h 19 [0, 0] (d + 6, 76, 84, [some (.inr (.inr 78)), some (.inl (zn)), some (.inl (zf)), some (.inl (za)), some (.inl (zk))], [], [], []) = some ((d + 6, 76, 48, [some (.inr (.inr 78)), some (.inl (zn)), some (.inl (zf)), some (.inl (mi_a h 66 (Int.toNat za))), some (.inl (zk + 1))], [], [], []), [((0 : Int)) ≤ za, za < ((66 : Int)), 0 ≤ za ∧ za < 66, -2147483648 ≤ zk + 1 ∧ zk + 1 ≤ 2147483647]) := rfl
theorem mi_tab_svE_2 : ∀ e ∈ ([(76, (5, 0, sb_76)), (16, (3, 0, sb_16)), (49, (2, 1, sb_49)), (66, (4, 0, sb_66)), (72, (2, 2, sb_72))] : mi_T), sc_P e.1 = some e.2 := mi_tb mi_P76 (mi_tb mi_P16 (mi_tb mi_P49 (mi_tb mi_P66 (mi_tb mi_P72 (mi_tb_e)))))
set_option maxRecDepth 20000 in
theorem ms_svE_2 {h : sm_H} {d : Nat} {Q : Option mi_V → sm_H → Prop} {zn zf za zk : Int} (hS : ab_Sh sx_sk h) (ok_zn : mi_in zn) (ok_zf : mi_in zf) (ok_za : mi_in za) (ok_zk : mi_in zk) (ho : (((0 : Int)) ≤ za) ∧ (za < ((66 : Int))) ∧ (0 ≤ za ∧ za < 66) ∧ (-2147483648 ≤ zk + 1 ∧ zk + 1 ≤ 2147483647)) (kon : ∀ h1, me_W [] h h1 → me_E (d + 6) 76 48 [some (.inr (.inr 78)), some (.inl (zn)), some (.inl (zf)), some (.inl (mi_a h 66 (Int.toNat za))), some (.inl (zk + 1))] [] h1 Q) : me_E (d + 6) 76 84 [some (.inr (.inr 78)), some (.inl (zn)), some (.inl (zf)), some (.inl (za)), some (.inl (zk))] [] h Q := mf_seg (mp_svE_2 h d zn zf za zk) (mi_tab_svE_2) hS (mi_okL_c (trivial) (mi_okL_c (ok_zn) (mi_okL_c (ok_zf) (mi_okL_c (ok_za) (mi_okL_c (ok_zk) (mi_okL_e)))))) (mi_okS_e) (mi_al (ho.1) (mi_al (ho.2.1) (mi_al (ho.2.2.1) (mi_al (ho.2.2.2) (mi_al_e))))) (fun h1 W _ hst => kon h1 W)
set_option maxRecDepth 20000 in
theorem mt_svE {h : sm_H} {d : Nat} {Q : Option mi_V → sm_H → Prop} {zn zf za zk : Int} (hS : ab_Sh sx_sk h) (ok_zn : mi_in zn) (ok_zf : mi_in zf) (ok_za : mi_in za) (ok_zk : mi_in zk) (k0 : (za < ((0 : Int))) → ((-2147483648 ≤ zk + 1 ∧ zk + 1 ≤ 2147483647)) ∧ (∀ h1, ab_Sh sx_sk h1 → ab_Fr [] h h1 → me_E (d + 6) 76 48 [some (.inr (.inr 78)), some (.inl (zn)), some (.inl (zf)), some (.inl ((0 : Int))), some (.inl (zk + 1))] [] h1 Q)) (k1 : (((0 : Int)) ≤ za) → (((66 : Int)) ≤ za) → ((-2147483648 ≤ zk + 1 ∧ zk + 1 ≤ 2147483647)) ∧ (∀ h1, ab_Sh sx_sk h1 → ab_Fr [] h h1 → me_E (d + 6) 76 48 [some (.inr (.inr 78)), some (.inl (zn)), some (.inl (zf)), some (.inl ((0 : Int))), some (.inl (zk + 1))] [] h1 Q)) (k2 : (((0 : Int)) ≤ za) → (za < ((66 : Int))) → ((0 ≤ za ∧ za < 66) ∧ (-2147483648 ≤ zk + 1 ∧ zk + 1 ≤ 2147483647)) ∧ (∀ h1, ab_Sh sx_sk h1 → ab_Fr [] h h1 → me_E (d + 6) 76 48 [some (.inr (.inr 78)), some (.inl (zn)), some (.inl (zf)), some (.inl (mi_a h 66 (Int.toNat za))), some (.inl (zk + 1))] [] h1 Q)) : me_E (d + 6) 76 84 [some (.inr (.inr 78)), some (.inl (zn)), some (.inl (zf)), some (.inl (za)), some (.inl (zk))] [] h Q := Or.elim (mi_em .lt (za) (((0 : Int)))) (fun c0 => ms_svE_0 hS ok_zn ok_zf ok_za ok_zk ⟨c0, (k0 c0).1⟩ (fun h1 W => (k0 c0).2 h1 W.1 (W.2.2.2.2.2 _ rfl))) (fun c0 => Or.elim (mi_em .ge (za) (((66 : Int)))) (fun c1 => ms_svE_1 hS ok_zn ok_zf ok_za ok_zk ⟨c0, c1, (k1 c0 c1).1⟩ (fun h1 W => (k1 c0 c1).2 h1 W.1 (W.2.2.2.2.2 _ rfl))) (fun c1 => ms_svE_2 hS ok_zn ok_zf ok_za ok_zk ⟨c0, c1, (k2 c0 c1).1.1, (k2 c0 c1).1.2⟩ (fun h1 W => (k2 c0 c1).2 h1 W.1 (W.2.2.2.2.2 _ rfl))))
/-! segments of the class: Sets, work -/
set_option maxRecDepth 20000 in
theorem mp_wkA_0 (h : sm_H) (d : Nat) : mj_path [(65, (2, 0, sb_65))] sx_sk h 2 [] (d + 7, 65, 0, [some (.inr (.inr 78)), none], [], [], []) = some ((d + 7, 65, 2, [some (.inr (.inr 78)), some (.inl ((0 : Int)))], [], [], []), []) := rfl
theorem mi_tab_wkA_0 : ∀ e ∈ ([(65, (2, 0, sb_65))] : mi_T), sc_P e.1 = some e.2 := mi_tb mi_P65 (mi_tb_e)
set_option maxRecDepth 20000 in
theorem ms_wkA_0 {h : sm_H} {d : Nat} {Q : Option mi_V → sm_H → Prop} (hS : ab_Sh sx_sk h)  (kon : ∀ h1, me_W [] h h1 → me_E (d + 7) 65 2 [some (.inr (.inr 78)), some (.inl ((0 : Int)))] [] h1 Q) : me_E (d + 7) 65 0 [some (.inr (.inr 78)), none] [] h Q := mf_seg (mp_wkA_0 h d ) (mi_tab_wkA_0) hS (mi_okL_c (trivial) (mi_okL_n (mi_okL_e))) (mi_okS_e) (mi_al_e) (fun h1 W _ hst => kon h1 W)
set_option maxRecDepth 20000 in
theorem mt_wkA {h : sm_H} {d : Nat} {Q : Option mi_V → sm_H → Prop} (hS : ab_Sh sx_sk h)  (k0 : (∀ h1, ab_Sh sx_sk h1 → ab_Fr [] h h1 → me_E (d + 7) 65 2 [some (.inr (.inr 78)), some (.inl ((0 : Int)))] [] h1 Q)) : me_E (d + 7) 65 0 [some (.inr (.inr 78)), none] [] h Q := ms_wkA_0 hS (fun h1 W => (k0) h1 W.1 (W.2.2.2.2.2 _ rfl))
set_option maxRecDepth 20000 in
theorem mp_wkB_0 (h : sm_H) (d : Nat) (zf : Int) : mj_path [(65, (2, 0, sb_65)), (16, (3, 0, sb_16)), (49, (2, 1, sb_49)), (66, (4, 0, sb_66)), (72, (2, 2, sb_72))] sx_sk h 4 [1] (d + 7, 65, 2, [some (.inr (.inr 78)), some (.inl (zf))], [], [], []) = some ((d + 7, 65, 70, [some (.inr (.inr 78)), some (.inl (zf))], [.inr (.inr 78)], [], []), [((70 : Int)) ≤ zf]) := rfl
theorem mi_tab_wkB_0 : ∀ e ∈ ([(65, (2, 0, sb_65)), (16, (3, 0, sb_16)), (49, (2, 1, sb_49)), (66, (4, 0, sb_66)), (72, (2, 2, sb_72))] : mi_T), sc_P e.1 = some e.2 := mi_tb mi_P65 (mi_tb mi_P16 (mi_tb mi_P49 (mi_tb mi_P66 (mi_tb mi_P72 (mi_tb_e)))))
set_option maxRecDepth 20000 in
theorem ms_wkB_0 {h : sm_H} {d : Nat} {Q : Option mi_V → sm_H → Prop} {zf : Int} (hS : ab_Sh sx_sk h) (ok_zf : mi_in zf) (ho : (((70 : Int)) ≤ zf)) (kon : ∀ h1, me_W [] h h1 → ∃ Q1, me_E (d + 6) 67 0 (mi_entry 3 [.inr (.inr 78)]) [] h1 Q1 ∧ ∀ w h2, (∀ x, w = some x → mi_ok x) → Q1 w h2 → me_E (d + 7) 65 73 [some (.inr (.inr 78)), some (.inl (zf))] (mi_back w []) h2 Q) : me_E (d + 7) 65 2 [some (.inr (.inr 78)), some (.inl (zf))] [] h Q := mf_seg (mp_wkB_0 h d zf) (mi_tab_wkB_0) hS (mi_okL_c (trivial) (mi_okL_c (ok_zf) (mi_okL_e))) (mi_okS_e) (mi_al (ho) (mi_al_e)) (fun h1 W _ hst => let ⟨_, k1, k2⟩ := kon h1 W; mf_call (M := (2, 0, sb_65)) (M' := (3, 0, sb_67)) rfl rfl rfl rfl (Nat.le_of_ble_eq_true rfl) (Nat.le_of_ble_eq_true rfl) W.1 k1 k2)
set_option maxRecDepth 20000 in
theorem mp_wkB_1 (h : sm_H) (d : Nat) (zf : Int) : mj_path [(65, (2, 0, sb_65)), (16, (3, 0, sb_16)), (49, (2, 1, sb_49)), (66, (4, 0, sb_66)), (72, (2, 2, sb_72))] sx_sk h 19 [0, 1, 1] (d + 7, 65, 2, [some (.inr (.inr 78)), some (.inl (zf))], [], [], []) = some ((d + 7, 65, 26, [some (.inr (.inr 78)), some (.inl (zf))], [], [], []), [zf < ((70 : Int)), zf < ((0 : Int)), zf < ((0 : Int))]) := rfl
theorem mi_tab_wkB_1 : ∀ e ∈ ([(65, (2, 0, sb_65)), (16, (3, 0, sb_16)), (49, (2, 1, sb_49)), (66, (4, 0, sb_66)), (72, (2, 2, sb_72))] : mi_T), sc_P e.1 = some e.2 := mi_tb mi_P65 (mi_tb mi_P16 (mi_tb mi_P49 (mi_tb mi_P66 (mi_tb mi_P72 (mi_tb_e)))))
set_option maxRecDepth 20000 in
theorem ms_wkB_1 {h : sm_H} {d : Nat} {Q : Option mi_V → sm_H → Prop} {zf : Int} (hS : ab_Sh sx_sk h) (ok_zf : mi_in zf) (ho : (zf < ((70 : Int))) ∧ (zf < ((0 : Int))) ∧ (zf < ((0 : Int)))) (kon : ∀ h1, me_W [] h h1 → me_E (d + 7) 65 26 [some (.inr (.inr 78)), some (.inl (zf))] [] h1 Q) : me_E (d + 7) 65 2 [some (.inr (.inr 78)), some (.inl (zf))] [] h Q := mf_seg (mp_wkB_1 h d zf) (mi_tab_wkB_1) hS (mi_okL_c (trivial) (mi_okL_c (ok_zf) (mi_okL_e))) (mi_okS_e) (mi_al (ho.1) (mi_al (ho.2.1) (mi_al (ho.2.2) (mi_al_e)))) (fun h1 W _ hst => kon h1 W)
set_option maxRecDepth 20000 in
theorem mp_wkB_2 (h : sm_H) (d : Nat) (zf : Int) : mj_path [(65, (2, 0, sb_65)), (16, (3, 0, sb_16)), (49, (2, 1, sb_49)), (66, (4, 0, sb_66)), (72, (2, 2, sb_72))] sx_sk h 35 [0, 0, 0, 0, 0] (d + 7, 65, 2, [some (.inr (.inr 78)), some (.inl (zf))], [], [], []) = some ((d + 7, 65, 26, [some (.inr (.inr 78)), some (.inl (zf))], [], [.inr (.inr (.inr (80, Int.toNat zf, Int64.ofNat 0))), .inr (.inr (.inl (79, Int.toNat zf, (0 : Int))))], []), [zf < ((70 : Int)), ((0 : Int)) ≤ zf, zf < ((70 : Int)), 0 ≤ zf ∧ zf < 70, ((0 : Int)) ≤ zf, zf < ((70 : Int)), 0 ≤ zf ∧ zf < 70]) := rfl
theorem mi_tab_wkB_2 : ∀ e ∈ ([(65, (2, 0, sb_65)), (16, (3, 0, sb_16)), (49, (2, 1, sb_49)), (66, (4, 0, sb_66)), (72, (2, 2, sb_72))] : mi_T), sc_P e.1 = some e.2 := mi_tb mi_P65 (mi_tb mi_P16 (mi_tb mi_P49 (mi_tb mi_P66 (mi_tb mi_P72 (mi_tb_e)))))
set_option maxRecDepth 20000 in
theorem ms_wkB_2 {h : sm_H} {d : Nat} {Q : Option mi_V → sm_H → Prop} {zf : Int} (hS : ab_Sh sx_sk h) (ok_zf : mi_in zf) (ho : (zf < ((70 : Int))) ∧ (((0 : Int)) ≤ zf) ∧ (zf < ((70 : Int))) ∧ (0 ≤ zf ∧ zf < 70) ∧ (((0 : Int)) ≤ zf) ∧ (zf < ((70 : Int))) ∧ (0 ≤ zf ∧ zf < 70)) (kon : ∀ h1, me_W [.inr (.inr (.inr (80, Int.toNat zf, Int64.ofNat 0))), .inr (.inr (.inl (79, Int.toNat zf, (0 : Int))))] h h1 → me_E (d + 7) 65 26 [some (.inr (.inr 78)), some (.inl (zf))] [] h1 Q) : me_E (d + 7) 65 2 [some (.inr (.inr 78)), some (.inl (zf))] [] h Q := mf_seg (mp_wkB_2 h d zf) (mi_tab_wkB_2) hS (mi_okL_c (trivial) (mi_okL_c (ok_zf) (mi_okL_e))) (mi_okS_e) (mi_al (ho.1) (mi_al (ho.2.1) (mi_al (ho.2.2.1) (mi_al (ho.2.2.2.1) (mi_al (ho.2.2.2.2.1) (mi_al (ho.2.2.2.2.2.1) (mi_al (ho.2.2.2.2.2.2) (mi_al_e)))))))) (fun h1 W _ hst => kon h1 W)
set_option maxRecDepth 20000 in
theorem mt_wkB {h : sm_H} {d : Nat} {Q : Option mi_V → sm_H → Prop} {zf : Int} (hS : ab_Sh sx_sk h) (ok_zf : mi_in zf) (k0 : (((70 : Int)) ≤ zf) → (∀ h1, ab_Sh sx_sk h1 → ab_Fr [] h h1 → ∃ Q1, me_E (d + 6) 67 0 (mi_entry 3 [.inr (.inr 78)]) [] h1 Q1 ∧ ∀ w h2, (∀ x, w = some x → mi_ok x) → Q1 w h2 → me_E (d + 7) 65 73 [some (.inr (.inr 78)), some (.inl (zf))] (mi_back w []) h2 Q)) (k1 : (zf < ((70 : Int))) → (zf < ((0 : Int))) → (∀ h1, ab_Sh sx_sk h1 → ab_Fr [] h h1 → me_E (d + 7) 65 26 [some (.inr (.inr 78)), some (.inl (zf))] [] h1 Q)) (k2 : (zf < ((70 : Int))) → (((0 : Int)) ≤ zf) → ((0 ≤ zf ∧ zf < 70)) ∧ (∀ h1, ab_Sh sx_sk h1 → (∀ i, mi_a h1 79 i = if i = Int.toNat zf then (0 : Int) else (mi_a h 79 i)) → (∀ i, mx_b h1 80 i = if i = Int.toNat zf then Int64.ofNat 0 else (mx_b h 80 i)) → ab_Fr [(10112, 10113), (10240, 10241)] h h1 → me_E (d + 7) 65 26 [some (.inr (.inr 78)), some (.inl (zf))] [] h1 Q)) : me_E (d + 7) 65 2 [some (.inr (.inr 78)), some (.inl (zf))] [] h Q := Or.elim (mi_em .ge (zf) (((70 : Int)))) (fun c0 => ms_wkB_0 hS ok_zf (c0) (fun h1 W => (k0 c0) h1 W.1 (W.2.2.2.2.2 _ rfl))) (fun c0 => Or.elim (mi_em .lt (zf) (((0 : Int)))) (fun c1 => ms_wkB_1 hS ok_zf ⟨c0, c1, c1⟩ (fun h1 W => (k1 c0 c1) h1 W.1 (W.2.2.2.2.2 _ rfl))) (fun c1 => ms_wkB_2 hS ok_zf ⟨c0, c1, c0, (k2 c0 c1).1, c1, c0, (k2 c0 c1).1⟩ (fun h1 W => (k2 c0 c1).2 h1 W.1 (fun i => W.2.2.1 79 i) (fun i => W.2.2.2.2.1 80 i) (W.2.2.2.2.2 _ rfl))))
set_option maxRecDepth 20000 in
theorem mp_wkB2_0 (h : sm_H) (d : Nat) (zf : Int) : mj_path [(65, (2, 0, sb_65)), (16, (3, 0, sb_16)), (49, (2, 1, sb_49)), (66, (4, 0, sb_66)), (72, (2, 2, sb_72))] sx_sk h 10 [1, 1] (d + 7, 65, 26, [some (.inr (.inr 78)), some (.inl (zf))], [], [], []) = some ((d + 7, 65, 43, [some (.inr (.inr 78)), some (.inl (zf))], [], [], []), [zf ≠ ((0 : Int)), zf < ((0 : Int))]) := rfl
theorem mi_tab_wkB2_0 : ∀ e ∈ ([(65, (2, 0, sb_65)), (16, (3, 0, sb_16)), (49, (2, 1, sb_49)), (66, (4, 0, sb_66)), (72, (2, 2, sb_72))] : mi_T), sc_P e.1 = some e.2 := mi_tb mi_P65 (mi_tb mi_P16 (mi_tb mi_P49 (mi_tb mi_P66 (mi_tb mi_P72 (mi_tb_e)))))
set_option maxRecDepth 20000 in
theorem ms_wkB2_0 {h : sm_H} {d : Nat} {Q : Option mi_V → sm_H → Prop} {zf : Int} (hS : ab_Sh sx_sk h) (ok_zf : mi_in zf) (ho : (zf ≠ ((0 : Int))) ∧ (zf < ((0 : Int)))) (kon : ∀ h1, me_W [] h h1 → me_E (d + 7) 65 43 [some (.inr (.inr 78)), some (.inl (zf))] [] h1 Q) : me_E (d + 7) 65 26 [some (.inr (.inr 78)), some (.inl (zf))] [] h Q := mf_seg (mp_wkB2_0 h d zf) (mi_tab_wkB2_0) hS (mi_okL_c (trivial) (mi_okL_c (ok_zf) (mi_okL_e))) (mi_okS_e) (mi_al (ho.1) (mi_al (ho.2) (mi_al_e))) (fun h1 W _ hst => kon h1 W)
set_option maxRecDepth 20000 in
theorem mp_wkB2_1 (h : sm_H) (d : Nat) (zf : Int) : mj_path [(65, (2, 0, sb_65)), (16, (3, 0, sb_16)), (49, (2, 1, sb_49)), (66, (4, 0, sb_66)), (72, (2, 2, sb_72))] sx_sk h 14 [1, 0, 1] (d + 7, 65, 26, [some (.inr (.inr 78)), some (.inl (zf))], [], [], []) = some ((d + 7, 65, 43, [some (.inr (.inr 78)), some (.inl (zf))], [], [], []), [zf ≠ ((0 : Int)), ((0 : Int)) ≤ zf, ((70 : Int)) ≤ zf]) := rfl
theorem mi_tab_wkB2_1 : ∀ e ∈ ([(65, (2, 0, sb_65)), (16, (3, 0, sb_16)), (49, (2, 1, sb_49)), (66, (4, 0, sb_66)), (72, (2, 2, sb_72))] : mi_T), sc_P e.1 = some e.2 := mi_tb mi_P65 (mi_tb mi_P16 (mi_tb mi_P49 (mi_tb mi_P66 (mi_tb mi_P72 (mi_tb_e)))))
set_option maxRecDepth 20000 in
theorem ms_wkB2_1 {h : sm_H} {d : Nat} {Q : Option mi_V → sm_H → Prop} {zf : Int} (hS : ab_Sh sx_sk h) (ok_zf : mi_in zf) (ho : (zf ≠ ((0 : Int))) ∧ (((0 : Int)) ≤ zf) ∧ (((70 : Int)) ≤ zf)) (kon : ∀ h1, me_W [] h h1 → me_E (d + 7) 65 43 [some (.inr (.inr 78)), some (.inl (zf))] [] h1 Q) : me_E (d + 7) 65 26 [some (.inr (.inr 78)), some (.inl (zf))] [] h Q := mf_seg (mp_wkB2_1 h d zf) (mi_tab_wkB2_1) hS (mi_okL_c (trivial) (mi_okL_c (ok_zf) (mi_okL_e))) (mi_okS_e) (mi_al (ho.1) (mi_al (ho.2.1) (mi_al (ho.2.2) (mi_al_e)))) (fun h1 W _ hst => kon h1 W)
set_option maxRecDepth 20000 in
theorem mp_wkB2_2 (h : sm_H) (d : Nat) (zf : Int) : mj_path [(65, (2, 0, sb_65)), (16, (3, 0, sb_16)), (49, (2, 1, sb_49)), (66, (4, 0, sb_66)), (72, (2, 2, sb_72))] sx_sk h 18 [1, 0, 0] (d + 7, 65, 26, [some (.inr (.inr 78)), some (.inl (zf))], [], [], []) = some ((d + 7, 65, 43, [some (.inr (.inr 78)), some (.inl (zf))], [], [.inr (.inr (.inr (81, Int.toNat zf, Int64.ofNat 0)))], []), [zf ≠ ((0 : Int)), ((0 : Int)) ≤ zf, zf < ((70 : Int)), 0 ≤ zf ∧ zf < 70]) := rfl
theorem mi_tab_wkB2_2 : ∀ e ∈ ([(65, (2, 0, sb_65)), (16, (3, 0, sb_16)), (49, (2, 1, sb_49)), (66, (4, 0, sb_66)), (72, (2, 2, sb_72))] : mi_T), sc_P e.1 = some e.2 := mi_tb mi_P65 (mi_tb mi_P16 (mi_tb mi_P49 (mi_tb mi_P66 (mi_tb mi_P72 (mi_tb_e)))))
set_option maxRecDepth 20000 in
theorem ms_wkB2_2 {h : sm_H} {d : Nat} {Q : Option mi_V → sm_H → Prop} {zf : Int} (hS : ab_Sh sx_sk h) (ok_zf : mi_in zf) (ho : (zf ≠ ((0 : Int))) ∧ (((0 : Int)) ≤ zf) ∧ (zf < ((70 : Int))) ∧ (0 ≤ zf ∧ zf < 70)) (kon : ∀ h1, me_W [.inr (.inr (.inr (81, Int.toNat zf, Int64.ofNat 0)))] h h1 → me_E (d + 7) 65 43 [some (.inr (.inr 78)), some (.inl (zf))] [] h1 Q) : me_E (d + 7) 65 26 [some (.inr (.inr 78)), some (.inl (zf))] [] h Q := mf_seg (mp_wkB2_2 h d zf) (mi_tab_wkB2_2) hS (mi_okL_c (trivial) (mi_okL_c (ok_zf) (mi_okL_e))) (mi_okS_e) (mi_al (ho.1) (mi_al (ho.2.1) (mi_al (ho.2.2.1) (mi_al (ho.2.2.2) (mi_al_e))))) (fun h1 W _ hst => kon h1 W)
set_option maxRecDepth 20000 in
theorem mp_wkB2_3 (h : sm_H) (d : Nat) (zf : Int) : mj_path [(65, (2, 0, sb_65)), (16, (3, 0, sb_16)), (49, (2, 1, sb_49)), (66, (4, 0, sb_66)), (72, (2, 2, sb_72))] sx_sk h 11 [0, 1] (d + 7, 65, 26, [some (.inr (.inr 78)), some (.inl (zf))], [], [], []) = some ((d + 7, 65, 43, [some (.inr (.inr 78)), some (.inl (zf))], [], [], []), [zf = ((0 : Int)), zf < ((0 : Int))]) := rfl
theorem mi_tab_wkB2_3 : ∀ e ∈ ([(65, (2, 0, sb_65)), (16, (3, 0, sb_16)), (49, (2, 1, sb_49)), (66, (4, 0, sb_66)), (72, (2, 2, sb_72))] : mi_T), sc_P e.1 = some e.2 := mi_tb mi_P65 (mi_tb mi_P16 (mi_tb mi_P49 (mi_tb mi_P66 (mi_tb mi_P72 (mi_tb_e)))))
set_option maxRecDepth 20000 in
theorem ms_wkB2_3 {h : sm_H} {d : Nat} {Q : Option mi_V → sm_H → Prop} {zf : Int} (hS : ab_Sh sx_sk h) (ok_zf : mi_in zf) (ho : (zf = ((0 : Int))) ∧ (zf < ((0 : Int)))) (kon : ∀ h1, me_W [] h h1 → me_E (d + 7) 65 43 [some (.inr (.inr 78)), some (.inl (zf))] [] h1 Q) : me_E (d + 7) 65 26 [some (.inr (.inr 78)), some (.inl (zf))] [] h Q := mf_seg (mp_wkB2_3 h d zf) (mi_tab_wkB2_3) hS (mi_okL_c (trivial) (mi_okL_c (ok_zf) (mi_okL_e))) (mi_okS_e) (mi_al (ho.1) (mi_al (ho.2) (mi_al_e))) (fun h1 W _ hst => kon h1 W)
set_option maxRecDepth 20000 in
theorem mp_wkB2_4 (h : sm_H) (d : Nat) (zf : Int) : mj_path [(65, (2, 0, sb_65)), (16, (3, 0, sb_16)), (49, (2, 1, sb_49)), (66, (4, 0, sb_66)), (72, (2, 2, sb_72))] sx_sk h 15 [0, 0, 1] (d + 7, 65, 26, [some (.inr (.inr 78)), some (.inl (zf))], [], [], []) = some ((d + 7, 65, 43, [some (.inr (.inr 78)), some (.inl (zf))], [], [], []), [zf = ((0 : Int)), ((0 : Int)) ≤ zf, ((70 : Int)) ≤ zf]) := rfl
theorem mi_tab_wkB2_4 : ∀ e ∈ ([(65, (2, 0, sb_65)), (16, (3, 0, sb_16)), (49, (2, 1, sb_49)), (66, (4, 0, sb_66)), (72, (2, 2, sb_72))] : mi_T), sc_P e.1 = some e.2 := mi_tb mi_P65 (mi_tb mi_P16 (mi_tb mi_P49 (mi_tb mi_P66 (mi_tb mi_P72 (mi_tb_e)))))
set_option maxRecDepth 20000 in
theorem ms_wkB2_4 {h : sm_H} {d : Nat} {Q : Option mi_V → sm_H → Prop} {zf : Int} (hS : ab_Sh sx_sk h) (ok_zf : mi_in zf) (ho : (zf = ((0 : Int))) ∧ (((0 : Int)) ≤ zf) ∧ (((70 : Int)) ≤ zf)) (kon : ∀ h1, me_W [] h h1 → me_E (d + 7) 65 43 [some (.inr (.inr 78)), some (.inl (zf))] [] h1 Q) : me_E (d + 7) 65 26 [some (.inr (.inr 78)), some (.inl (zf))] [] h Q := mf_seg (mp_wkB2_4 h d zf) (mi_tab_wkB2_4) hS (mi_okL_c (trivial) (mi_okL_c (ok_zf) (mi_okL_e))) (mi_okS_e) (mi_al (ho.1) (mi_al (ho.2.1) (mi_al (ho.2.2) (mi_al_e)))) (fun h1 W _ hst => kon h1 W)
set_option maxRecDepth 20000 in
theorem mp_wkB2_5 (h : sm_H) (d : Nat) (zf : Int) : mj_path [(65, (2, 0, sb_65)), (16, (3, 0, sb_16)), (49, (2, 1, sb_49)), (66, (4, 0, sb_66)), (72, (2, 2, sb_72))] sx_sk h 19 [0, 0, 0] (d + 7, 65, 26, [some (.inr (.inr 78)), some (.inl (zf))], [], [], []) = some ((d + 7, 65, 43, [some (.inr (.inr 78)), some (.inl (zf))], [], [.inr (.inr (.inr (81, Int.toNat zf, Int64.ofNat 1)))], []), [zf = ((0 : Int)), ((0 : Int)) ≤ zf, zf < ((70 : Int)), 0 ≤ zf ∧ zf < 70]) := rfl
theorem mi_tab_wkB2_5 : ∀ e ∈ ([(65, (2, 0, sb_65)), (16, (3, 0, sb_16)), (49, (2, 1, sb_49)), (66, (4, 0, sb_66)), (72, (2, 2, sb_72))] : mi_T), sc_P e.1 = some e.2 := mi_tb mi_P65 (mi_tb mi_P16 (mi_tb mi_P49 (mi_tb mi_P66 (mi_tb mi_P72 (mi_tb_e)))))
set_option maxRecDepth 20000 in
theorem ms_wkB2_5 {h : sm_H} {d : Nat} {Q : Option mi_V → sm_H → Prop} {zf : Int} (hS : ab_Sh sx_sk h) (ok_zf : mi_in zf) (ho : (zf = ((0 : Int))) ∧ (((0 : Int)) ≤ zf) ∧ (zf < ((70 : Int))) ∧ (0 ≤ zf ∧ zf < 70)) (kon : ∀ h1, me_W [.inr (.inr (.inr (81, Int.toNat zf, Int64.ofNat 1)))] h h1 → me_E (d + 7) 65 43 [some (.inr (.inr 78)), some (.inl (zf))] [] h1 Q) : me_E (d + 7) 65 26 [some (.inr (.inr 78)), some (.inl (zf))] [] h Q := mf_seg (mp_wkB2_5 h d zf) (mi_tab_wkB2_5) hS (mi_okL_c (trivial) (mi_okL_c (ok_zf) (mi_okL_e))) (mi_okS_e) (mi_al (ho.1) (mi_al (ho.2.1) (mi_al (ho.2.2.1) (mi_al (ho.2.2.2) (mi_al_e))))) (fun h1 W _ hst => kon h1 W)
set_option maxRecDepth 20000 in
theorem mt_wkB2 {h : sm_H} {d : Nat} {Q : Option mi_V → sm_H → Prop} {zf : Int} (hS : ab_Sh sx_sk h) (ok_zf : mi_in zf) (k0 : (zf ≠ ((0 : Int))) → (zf < ((0 : Int))) → (∀ h1, ab_Sh sx_sk h1 → ab_Fr [] h h1 → me_E (d + 7) 65 43 [some (.inr (.inr 78)), some (.inl (zf))] [] h1 Q)) (k1 : (zf ≠ ((0 : Int))) → (((0 : Int)) ≤ zf) → (((70 : Int)) ≤ zf) → (∀ h1, ab_Sh sx_sk h1 → ab_Fr [] h h1 → me_E (d + 7) 65 43 [some (.inr (.inr 78)), some (.inl (zf))] [] h1 Q)) (k2 : (zf ≠ ((0 : Int))) → (((0 : Int)) ≤ zf) → (zf < ((70 : Int))) → ((0 ≤ zf ∧ zf < 70)) ∧ (∀ h1, ab_Sh sx_sk h1 → (∀ i, mx_b h1 81 i = if i = Int.toNat zf then Int64.ofNat 0 else (mx_b h 81 i)) → ab_Fr [(10368, 10369)] h h1 → me_E (d + 7) 65 43 [some (.inr (.inr 78)), some (.inl (zf))] [] h1 Q)) (k3 : (zf = ((0 : Int))) → (zf < ((0 : Int))) → (∀ h1, ab_Sh sx_sk h1 → ab_Fr [] h h1 → me_E (d + 7) 65 43 [some (.inr (.inr 78)), some (.inl (zf))] [] h1 Q)) (k4 : (zf = ((0 : Int))) → (((0 : Int)) ≤ zf) → (((70 : Int)) ≤ zf) → (∀ h1, ab_Sh sx_sk h1 → ab_Fr [] h h1 → me_E (d + 7) 65 43 [some (.inr (.inr 78)), some (.inl (zf))] [] h1 Q)) (k5 : (zf = ((0 : Int))) → (((0 : Int)) ≤ zf) → (zf < ((70 : Int))) → ((0 ≤ zf ∧ zf < 70)) ∧ (∀ h1, ab_Sh sx_sk h1 → (∀ i, mx_b h1 81 i = if i = Int.toNat zf then Int64.ofNat 1 else (mx_b h 81 i)) → ab_Fr [(10368, 10369)] h h1 → me_E (d + 7) 65 43 [some (.inr (.inr 78)), some (.inl (zf))] [] h1 Q)) : me_E (d + 7) 65 26 [some (.inr (.inr 78)), some (.inl (zf))] [] h Q := Or.elim (mi_em .ne (zf) (((0 : Int)))) (fun c0 => Or.elim (mi_em .lt (zf) (((0 : Int)))) (fun c1 => ms_wkB2_0 hS ok_zf ⟨c0, c1⟩ (fun h1 W => (k0 c0 c1) h1 W.1 (W.2.2.2.2.2 _ rfl))) (fun c1 => Or.elim (mi_em .ge (zf) (((70 : Int)))) (fun c2 => ms_wkB2_1 hS ok_zf ⟨c0, c1, c2⟩ (fun h1 W => (k1 c0 c1 c2) h1 W.1 (W.2.2.2.2.2 _ rfl))) (fun c2 => ms_wkB2_2 hS ok_zf ⟨c0, c1, c2, (k2 c0 c1 c2).1⟩ (fun h1 W => (k2 c0 c1 c2).2 h1 W.1 (fun i => W.2.2.2.2.1 81 i) (W.2.2.2.2.2 _ rfl))))) (fun c0 => Or.elim (mi_em .lt (zf) (((0 : Int)))) (fun c1 => ms_wkB2_3 hS ok_zf ⟨c0, c1⟩ (fun h1 W => (k3 c0 c1) h1 W.1 (W.2.2.2.2.2 _ rfl))) (fun c1 => Or.elim (mi_em .ge (zf) (((70 : Int)))) (fun c2 => ms_wkB2_4 hS ok_zf ⟨c0, c1, c2⟩ (fun h1 W => (k4 c0 c1 c2) h1 W.1 (W.2.2.2.2.2 _ rfl))) (fun c2 => ms_wkB2_5 hS ok_zf ⟨c0, c1, c2, (k5 c0 c1 c2).1⟩ (fun h1 W => (k5 c0 c1 c2).2 h1 W.1 (fun i => W.2.2.2.2.1 81 i) (W.2.2.2.2.2 _ rfl)))))
set_option maxRecDepth 20000 in
theorem mp_wkB3_0 (h : sm_H) (d : Nat) (zf : Int) : mj_path [(65, (2, 0, sb_65)), (16, (3, 0, sb_16)), (49, (2, 1, sb_49)), (66, (4, 0, sb_66)), (72, (2, 2, sb_72))] sx_sk h 18 [1, 1] (d + 7, 65, 43, [some (.inr (.inr 78)), some (.inl (zf))], [], [], []) = some ((d + 7, 65, 2, [some (.inr (.inr 78)), some (.inl (zf + 1))], [], [], []), [zf < ((0 : Int)), zf < ((0 : Int)), -2147483648 ≤ zf + 1 ∧ zf + 1 ≤ 2147483647]) := rfl
theorem mi_tab_wkB3_0 : ∀ e ∈ ([(65, (2, 0, sb_65)), (16, (3, 0, sb_16)), (49, (2, 1, sb_49)), (66, (4, 0, sb_66)), (72, (2, 2, sb_72))] : mi_T), sc_P e.1 = some e.2 := mi_tb mi_P65 (mi_tb mi_P16 (mi_tb mi_P49 (mi_tb mi_P66 (mi_tb mi_P72 (mi_tb_e)))))
set_option maxRecDepth 20000 in
theorem ms_wkB3_0 {h : sm_H} {d : Nat} {Q : Option mi_V → sm_H → Prop} {zf : Int} (hS : ab_Sh sx_sk h) (ok_zf : mi_in zf) (ho : (zf < ((0 : Int))) ∧ (zf < ((0 : Int))) ∧ (-2147483648 ≤ zf + 1 ∧ zf + 1 ≤ 2147483647)) (kon : ∀ h1, me_W [] h h1 → me_E (d + 7) 65 2 [some (.inr (.inr 78)), some (.inl (zf + 1))] [] h1 Q) : me_E (d + 7) 65 43 [some (.inr (.inr 78)), some (.inl (zf))] [] h Q := mf_seg (mp_wkB3_0 h d zf) (mi_tab_wkB3_0) hS (mi_okL_c (trivial) (mi_okL_c (ok_zf) (mi_okL_e))) (mi_okS_e) (mi_al (ho.1) (mi_al (ho.2.1) (mi_al (ho.2.2) (mi_al_e)))) (fun h1 W _ hst => kon h1 W)
set_option maxRecDepth 20000 in
theorem mp_wkB3_1 (h : sm_H) (d : Nat) (zf : Int) : mj_path [(65, (2, 0, sb_65)), (16, (3, 0, sb_16)), (49, (2, 1, sb_49)), (66, (4, 0, sb_66)), (72, (2, 2, sb_72))] sx_sk h 26 [0, 1, 0, 1] (d + 7, 65, 43, [some (.inr (.inr 78)), some (.inl (zf))], [], [], []) = some ((d + 7, 65, 2, [some (.inr (.inr 78)), some (.inl (zf + 1))], [], [], []), [((0 : Int)) ≤ zf, ((70 : Int)) ≤ zf, ((0 : Int)) ≤ zf, ((70 : Int)) ≤ zf, -2147483648 ≤ zf + 1 ∧ zf + 1 ≤ 2147483647]) := rfl
theorem mi_tab_wkB3_1 : ∀ e ∈ ([(65, (2, 0, sb_65)), (16, (3, 0, sb_16)), (49, (2, 1, sb_49)), (66, (4, 0, sb_66)), (72, (2, 2, sb_72))] : mi_T), sc_P e.1 = some e.2 := mi_tb mi_P65 (mi_tb mi_P16 (mi_tb mi_P49 (mi_tb mi_P66 (mi_tb mi_P72 (mi_tb_e)))))
set_option maxRecDepth 20000 in
theorem ms_wkB3_1 {h : sm_H} {d : Nat} {Q : Option mi_V → sm_H → Prop} {zf : Int} (hS : ab_Sh sx_sk h) (ok_zf : mi_in zf) (ho : (((0 : Int)) ≤ zf) ∧ (((70 : Int)) ≤ zf) ∧ (((0 : Int)) ≤ zf) ∧ (((70 : Int)) ≤ zf) ∧ (-2147483648 ≤ zf + 1 ∧ zf + 1 ≤ 2147483647)) (kon : ∀ h1, me_W [] h h1 → me_E (d + 7) 65 2 [some (.inr (.inr 78)), some (.inl (zf + 1))] [] h1 Q) : me_E (d + 7) 65 43 [some (.inr (.inr 78)), some (.inl (zf))] [] h Q := mf_seg (mp_wkB3_1 h d zf) (mi_tab_wkB3_1) hS (mi_okL_c (trivial) (mi_okL_c (ok_zf) (mi_okL_e))) (mi_okS_e) (mi_al (ho.1) (mi_al (ho.2.1) (mi_al (ho.2.2.1) (mi_al (ho.2.2.2.1) (mi_al (ho.2.2.2.2) (mi_al_e)))))) (fun h1 W _ hst => kon h1 W)
set_option maxRecDepth 20000 in
theorem mp_wkB3_2 (h : sm_H) (d : Nat) (zf : Int) : mj_path [(65, (2, 0, sb_65)), (16, (3, 0, sb_16)), (49, (2, 1, sb_49)), (66, (4, 0, sb_66)), (72, (2, 2, sb_72))] sx_sk h 34 [0, 0, 0, 0] (d + 7, 65, 43, [some (.inr (.inr 78)), some (.inl (zf))], [], [], []) = some ((d + 7, 65, 2, [some (.inr (.inr 78)), some (.inl (zf + 1))], [], [.inr (.inr (.inl (83, Int.toNat zf, (0 : Int)))), .inr (.inr (.inl (82, Int.toNat zf, (1000 : Int))))], []), [((0 : Int)) ≤ zf, zf < ((70 : Int)), 0 ≤ zf ∧ zf < 70, ((0 : Int)) ≤ zf, zf < ((70 : Int)), 0 ≤ zf ∧ zf < 70, -2147483648 ≤ zf + 1 ∧ zf + 1 ≤ 2147483647]) := rfl
theorem mi_tab_wkB3_2 : ∀ e ∈ ([(65, (2, 0, sb_65)), (16, (3, 0, sb_16)), (49, (2, 1, sb_49)), (66, (4, 0, sb_66)), (72, (2, 2, sb_72))] : mi_T), sc_P e.1 = some e.2 := mi_tb mi_P65 (mi_tb mi_P16 (mi_tb mi_P49 (mi_tb mi_P66 (mi_tb mi_P72 (mi_tb_e)))))
set_option maxRecDepth 20000 in
theorem ms_wkB3_2 {h : sm_H} {d : Nat} {Q : Option mi_V → sm_H → Prop} {zf : Int} (hS : ab_Sh sx_sk h) (ok_zf : mi_in zf) (ho : (((0 : Int)) ≤ zf) ∧ (zf < ((70 : Int))) ∧ (0 ≤ zf ∧ zf < 70) ∧ (((0 : Int)) ≤ zf) ∧ (zf < ((70 : Int))) ∧ (0 ≤ zf ∧ zf < 70) ∧ (-2147483648 ≤ zf + 1 ∧ zf + 1 ≤ 2147483647)) (kon : ∀ h1, me_W [.inr (.inr (.inl (83, Int.toNat zf, (0 : Int)))), .inr (.inr (.inl (82, Int.toNat zf, (1000 : Int))))] h h1 → me_E (d + 7) 65 2 [some (.inr (.inr 78)), some (.inl (zf + 1))] [] h1 Q) : me_E (d + 7) 65 43 [some (.inr (.inr 78)), some (.inl (zf))] [] h Q := mf_seg (mp_wkB3_2 h d zf) (mi_tab_wkB3_2) hS (mi_okL_c (trivial) (mi_okL_c (ok_zf) (mi_okL_e))) (mi_okS_e) (mi_al (ho.1) (mi_al (ho.2.1) (mi_al (ho.2.2.1) (mi_al (ho.2.2.2.1) (mi_al (ho.2.2.2.2.1) (mi_al (ho.2.2.2.2.2.1) (mi_al (ho.2.2.2.2.2.2) (mi_al_e)))))))) (fun h1 W _ hst => kon h1 W)
set_option maxRecDepth 20000 in
theorem mt_wkB3 {h : sm_H} {d : Nat} {Q : Option mi_V → sm_H → Prop} {zf : Int} (hS : ab_Sh sx_sk h) (ok_zf : mi_in zf) (k0 : (zf < ((0 : Int))) → ((-2147483648 ≤ zf + 1 ∧ zf + 1 ≤ 2147483647)) ∧ (∀ h1, ab_Sh sx_sk h1 → ab_Fr [] h h1 → me_E (d + 7) 65 2 [some (.inr (.inr 78)), some (.inl (zf + 1))] [] h1 Q)) (k1 : (((0 : Int)) ≤ zf) → (((70 : Int)) ≤ zf) → ((-2147483648 ≤ zf + 1 ∧ zf + 1 ≤ 2147483647)) ∧ (∀ h1, ab_Sh sx_sk h1 → ab_Fr [] h h1 → me_E (d + 7) 65 2 [some (.inr (.inr 78)), some (.inl (zf + 1))] [] h1 Q)) (k2 : (((0 : Int)) ≤ zf) → (zf < ((70 : Int))) → ((0 ≤ zf ∧ zf < 70) ∧ (-2147483648 ≤ zf + 1 ∧ zf + 1 ≤ 2147483647)) ∧ (∀ h1, ab_Sh sx_sk h1 → (∀ i, mi_a h1 82 i = if i = Int.toNat zf then (1000 : Int) else (mi_a h 82 i)) → (∀ i, mi_a h1 83 i = if i = Int.toNat zf then (0 : Int) else (mi_a h 83 i)) → ab_Fr [(10496, 10497), (10624, 10625)] h h1 → me_E (d + 7) 65 2 [some (.inr (.inr 78)), some (.inl (zf + 1))] [] h1 Q)) : me_E (d + 7) 65 43 [some (.inr (.inr 78)), some (.inl (zf))] [] h Q := Or.elim (mi_em .lt (zf) (((0 : Int)))) (fun c0 => ms_wkB3_0 hS ok_zf ⟨c0, c0, (k0 c0).1⟩ (fun h1 W => (k0 c0).2 h1 W.1 (W.2.2.2.2.2 _ rfl))) (fun c0 => Or.elim (mi_em .ge (zf) (((70 : Int)))) (fun c1 => ms_wkB3_1 hS ok_zf ⟨c0, c1, c0, c1, (k1 c0 c1).1⟩ (fun h1 W => (k1 c0 c1).2 h1 W.1 (W.2.2.2.2.2 _ rfl))) (fun c1 => ms_wkB3_2 hS ok_zf ⟨c0, c1, (k2 c0 c1).1.1, c0, c1, (k2 c0 c1).1.1, (k2 c0 c1).1.2⟩ (fun h1 W => (k2 c0 c1).2 h1 W.1 (fun i => W.2.2.1 82 i) (fun i => W.2.2.1 83 i) (W.2.2.2.2.2 _ rfl))))
set_option maxRecDepth 20000 in
theorem mp_wkC_0 (h : sm_H) (d : Nat) (zf : Int) : mj_path [(65, (2, 0, sb_65))] sx_sk h 1 [] (d + 7, 65, 73, [some (.inr (.inr 78)), some (.inl (zf))], [], [], []) = some ((d + 7, 65, 74, [some (.inr (.inr 78)), some (.inl (zf))], [.inr (.inr 78)], [], []), []) := rfl
theorem mi_tab_wkC_0 : ∀ e ∈ ([(65, (2, 0, sb_65))] : mi_T), sc_P e.1 = some e.2 := mi_tb mi_P65 (mi_tb_e)
set_option maxRecDepth 20000 in
theorem ms_wkC_0 {h : sm_H} {d : Nat} {Q : Option mi_V → sm_H → Prop} {zf : Int} (hS : ab_Sh sx_sk h) (ok_zf : mi_in zf) (kon : ∀ h1, me_W [] h h1 → ∃ Q1, me_E (d + 6) 76 0 (mi_entry 5 [.inr (.inr 78)]) [] h1 Q1 ∧ ∀ w h2, (∀ x, w = some x → mi_ok x) → Q1 w h2 → me_E (d + 7) 65 77 [some (.inr (.inr 78)), some (.inl (zf))] (mi_back w []) h2 Q) : me_E (d + 7) 65 73 [some (.inr (.inr 78)), some (.inl (zf))] [] h Q := mf_seg (mp_wkC_0 h d zf) (mi_tab_wkC_0) hS (mi_okL_c (trivial) (mi_okL_c (ok_zf) (mi_okL_e))) (mi_okS_e) (mi_al_e) (fun h1 W _ hst => let ⟨_, k1, k2⟩ := kon h1 W; mf_call (M := (2, 0, sb_65)) (M' := (5, 0, sb_76)) rfl rfl rfl rfl (Nat.le_of_ble_eq_true rfl) (Nat.le_of_ble_eq_true rfl) W.1 k1 k2)
set_option maxRecDepth 20000 in
theorem mt_wkC {h : sm_H} {d : Nat} {Q : Option mi_V → sm_H → Prop} {zf : Int} (hS : ab_Sh sx_sk h) (ok_zf : mi_in zf) (k0 : (∀ h1, ab_Sh sx_sk h1 → ab_Fr [] h h1 → ∃ Q1, me_E (d + 6) 76 0 (mi_entry 5 [.inr (.inr 78)]) [] h1 Q1 ∧ ∀ w h2, (∀ x, w = some x → mi_ok x) → Q1 w h2 → me_E (d + 7) 65 77 [some (.inr (.inr 78)), some (.inl (zf))] (mi_back w []) h2 Q)) : me_E (d + 7) 65 73 [some (.inr (.inr 78)), some (.inl (zf))] [] h Q := ms_wkC_0 hS ok_zf (fun h1 W => (k0) h1 W.1 (W.2.2.2.2.2 _ rfl))
set_option maxRecDepth 20000 in
theorem mp_wkD_0 (h : sm_H) (d : Nat) (zf : Int) : mj_path [(65, (2, 0, sb_65))] sx_sk h 1 [] (d + 7, 65, 77, [some (.inr (.inr 78)), some (.inl (zf))], [], [], []) = some ((d + 7, 65, 78, [some (.inr (.inr 78)), some (.inl (zf))], [.inr (.inr 78)], [], []), []) := rfl
theorem mi_tab_wkD_0 : ∀ e ∈ ([(65, (2, 0, sb_65))] : mi_T), sc_P e.1 = some e.2 := mi_tb mi_P65 (mi_tb_e)
set_option maxRecDepth 20000 in
theorem ms_wkD_0 {h : sm_H} {d : Nat} {Q : Option mi_V → sm_H → Prop} {zf : Int} (hS : ab_Sh sx_sk h) (ok_zf : mi_in zf) (kon : ∀ h1, me_W [] h h1 → ∃ Q1, me_E (d + 6) 79 0 (mi_entry 6 [.inr (.inr 78)]) [] h1 Q1 ∧ ∀ w h2, (∀ x, w = some x → mi_ok x) → Q1 w h2 → me_E (d + 7) 65 81 [some (.inr (.inr 78)), some (.inl (zf))] (mi_back w []) h2 Q) : me_E (d + 7) 65 77 [some (.inr (.inr 78)), some (.inl (zf))] [] h Q := mf_seg (mp_wkD_0 h d zf) (mi_tab_wkD_0) hS (mi_okL_c (trivial) (mi_okL_c (ok_zf) (mi_okL_e))) (mi_okS_e) (mi_al_e) (fun h1 W _ hst => let ⟨_, k1, k2⟩ := kon h1 W; mf_call (M := (2, 0, sb_65)) (M' := (6, 0, sb_79)) rfl rfl rfl rfl (Nat.le_of_ble_eq_true rfl) (Nat.le_of_ble_eq_true rfl) W.1 k1 k2)
set_option maxRecDepth 20000 in
theorem mt_wkD {h : sm_H} {d : Nat} {Q : Option mi_V → sm_H → Prop} {zf : Int} (hS : ab_Sh sx_sk h) (ok_zf : mi_in zf) (k0 : (∀ h1, ab_Sh sx_sk h1 → ab_Fr [] h h1 → ∃ Q1, me_E (d + 6) 79 0 (mi_entry 6 [.inr (.inr 78)]) [] h1 Q1 ∧ ∀ w h2, (∀ x, w = some x → mi_ok x) → Q1 w h2 → me_E (d + 7) 65 81 [some (.inr (.inr 78)), some (.inl (zf))] (mi_back w []) h2 Q)) : me_E (d + 7) 65 77 [some (.inr (.inr 78)), some (.inl (zf))] [] h Q := ms_wkD_0 hS ok_zf (fun h1 W => (k0) h1 W.1 (W.2.2.2.2.2 _ rfl))
set_option maxRecDepth 20000 in
theorem mp_wkE_0 (h : sm_H) (d : Nat) (zf : Int) : mj_path [(65, (2, 0, sb_65))] sx_sk h 1 [] (d + 7, 65, 81, [some (.inr (.inr 78)), some (.inl (zf))], [], [], []) = some ((d + 7, 65, 82, [some (.inr (.inr 78)), some (.inl (zf))], [.inr (.inr 78)], [], []), []) := rfl
theorem mi_tab_wkE_0 : ∀ e ∈ ([(65, (2, 0, sb_65))] : mi_T), sc_P e.1 = some e.2 := mi_tb mi_P65 (mi_tb_e)
set_option maxRecDepth 20000 in
theorem ms_wkE_0 {h : sm_H} {d : Nat} {Q : Option mi_V → sm_H → Prop} {zf : Int} (hS : ab_Sh sx_sk h) (ok_zf : mi_in zf) (kon : ∀ h1, me_W [] h h1 → ∃ Q1, me_E (d + 6) 80 0 (mi_entry 4 [.inr (.inr 78)]) [] h1 Q1 ∧ ∀ w h2, (∀ x, w = some x → mi_ok x) → Q1 w h2 → me_E (d + 7) 65 85 [some (.inr (.inr 78)), some (.inl (zf))] (mi_back w []) h2 Q) : me_E (d + 7) 65 81 [some (.inr (.inr 78)), some (.inl (zf))] [] h Q := mf_seg (mp_wkE_0 h d zf) (mi_tab_wkE_0) hS (mi_okL_c (trivial) (mi_okL_c (ok_zf) (mi_okL_e))) (mi_okS_e) (mi_al_e) (fun h1 W _ hst => let ⟨_, k1, k2⟩ := kon h1 W; mf_call (M := (2, 0, sb_65)) (M' := (4, 0, sb_80)) rfl rfl rfl rfl (Nat.le_of_ble_eq_true rfl) (Nat.le_of_ble_eq_true rfl) W.1 k1 k2)
set_option maxRecDepth 20000 in
theorem mt_wkE {h : sm_H} {d : Nat} {Q : Option mi_V → sm_H → Prop} {zf : Int} (hS : ab_Sh sx_sk h) (ok_zf : mi_in zf) (k0 : (∀ h1, ab_Sh sx_sk h1 → ab_Fr [] h h1 → ∃ Q1, me_E (d + 6) 80 0 (mi_entry 4 [.inr (.inr 78)]) [] h1 Q1 ∧ ∀ w h2, (∀ x, w = some x → mi_ok x) → Q1 w h2 → me_E (d + 7) 65 85 [some (.inr (.inr 78)), some (.inl (zf))] (mi_back w []) h2 Q)) : me_E (d + 7) 65 81 [some (.inr (.inr 78)), some (.inl (zf))] [] h Q := ms_wkE_0 hS ok_zf (fun h1 W => (k0) h1 W.1 (W.2.2.2.2.2 _ rfl))
set_option maxRecDepth 20000 in
theorem mp_wkF_0 (h : sm_H) (d : Nat) (zf : Int) : mj_path [(65, (2, 0, sb_65))] sx_sk h 0 [] (d + 7, 65, 85, [some (.inr (.inr 78)), some (.inl (zf))], [], [], []) = some ((d + 7, 65, 85, [some (.inr (.inr 78)), some (.inl (zf))], [], [], []), []) := rfl
theorem mi_tab_wkF_0 : ∀ e ∈ ([(65, (2, 0, sb_65))] : mi_T), sc_P e.1 = some e.2 := mi_tb mi_P65 (mi_tb_e)
set_option maxRecDepth 20000 in
theorem ms_wkF_0 {h : sm_H} {d : Nat} {Q : Option mi_V → sm_H → Prop} {zf : Int} (hS : ab_Sh sx_sk h) (ok_zf : mi_in zf) (kon : ∀ h1, me_W [] h h1 → Q none h1) : me_E (d + 7) 65 85 [some (.inr (.inr 78)), some (.inl (zf))] [] h Q := mf_seg (mp_wkF_0 h d zf) (mi_tab_wkF_0) hS (mi_okL_c (trivial) (mi_okL_c (ok_zf) (mi_okL_e))) (mi_okS_e) (mi_al_e) (fun h1 W _ hst => mf_ret (M := (2, 0, sb_65)) rfl rfl rfl hst (mi_al_e) (kon h1 W))
set_option maxRecDepth 20000 in
theorem mt_wkF {h : sm_H} {d : Nat} {Q : Option mi_V → sm_H → Prop} {zf : Int} (hS : ab_Sh sx_sk h) (ok_zf : mi_in zf) (k0 : (∀ h1, ab_Sh sx_sk h1 → ab_Fr [] h h1 → Q none h1)) : me_E (d + 7) 65 85 [some (.inr (.inr 78)), some (.inl (zf))] [] h Q := ms_wkF_0 hS ok_zf (fun h1 W => (k0) h1 W.1 (W.2.2.2.2.2 _ rfl))
/-! the class's Sets: parts -/
section LCN
variable {X : sp_X} {p : sp_P} {r : List sp_P} {a : List sp_P} {as : List (List sp_P)} {b : Int64} {i : Nat}
theorem sa_v_c : sa_v X (p :: r) = if sp_e X p then sa_v X r else 0 := rfl
theorem sa_s_c : sa_s X (p :: r) = if sp_e X p then sp_s X p ||| sa_s X r else sp_s X p := rfl
theorem sa_h_c : sa_h X (p :: r) = max (sp_h X p) (sa_h X r) := rfl
theorem sf_v_c : sf_v X (a :: as) = if sa_v X a ≠ 0 then 1 else sf_v X as := rfl
theorem sf_s_c : sf_s X (a :: as) = sa_s X a ||| sf_s X as := rfl
theorem sf_h_c : sf_h X (a :: as) = min (min 1000 (sa_h X a)) (sf_h X as) := rfl
theorem sf_v_n : sf_v X [] = 0 := rfl
theorem sf_h_n : sf_h X [] = 1000 := rfl
theorem sk_r_c : sk_r X b (p :: r) = if sp_e X p then sp_s X p ||| sk_r X b r else sp_s X p := rfl
theorem sk_c_c : sk_c X b i (p :: r) = (if p.1 = i then sk_i X b p r else 0) ||| sk_c X b i r := rfl
end LCN
def shl1 (z : Int) : Int64 := (Int64.ofNat 1) <<< ((Int32.ofInt z).toInt64 &&& 63)
def pb_v (s : Int) : Int := if 3 ≤ s ∧ s ≤ 7 then 1 else 0
def pb_s (s v : Int) : Int64 := if s = 1 then Int64.ofNat 2 else if s = 2 then Int64.ofNat 4 else if s = 8 then shl1 (3 + v) else Int64.ofNat 0
def cv_p (h : sm_H) (u : Int) : sp_P := (gf_v h u, if mi_a h 68 u.toNat = 9 then 1 else 0, if mi_a h 72 u.toNat = 0 then 0 else if mi_a h 72 u.toNat = 5 then 1 else 2, pb_v (mi_a h 68 u.toNat), pb_s (mi_a h 68 u.toNat) (mi_a h 69 u.toNat))
def cX (h : sm_H) : sp_X := (mi_a h 79, mx_b h 80, mi_a h 82)
def cv_row (h : sm_H) : Nat → Int → List Int
  | 0, _ => []
  | n + 1, u => if u = -1 then [] else u :: cv_row h n (mi_a h 71 u.toNat)
theorem cv_row_c {h : sm_H} {n : Nat} {u : Int} : cv_row h (n + 1) u = if u = -1 then [] else u :: cv_row h n (mi_a h 71 u.toNat) := rfl
/-- the parts' numbers are in their range -/
def cv_u (h : sm_H) (U : Int) : Prop := U ≤ 60 ∧ ∀ u : Int, 0 ≤ u → u < U → (mi_a h 71 u.toNat = -1 ∨ (u < mi_a h 71 u.toNat ∧ mi_a h 71 u.toNat < U)) ∧ (gf_v h u = -1 ∨ (0 ≤ gf_v h u ∧ gf_v h u < 70)) ∧ (mi_a h 68 u.toNat = 8 → 0 ≤ mi_a h 69 u.toNat ∧ mi_a h 69 u.toNat < 20)
section CVP
variable {d : Nat} {h h' hb : sm_H} {zu : Int}
theorem gf_fr {wr : List (Nat × Nat)} (hF : ab_Fr wr h h') (hS : ab_Sh sx_sk h) (hw : (ab_in wr 8704 || ab_in wr 8832) = false) {u : Int} : gf_v h' u = gf_v h u := by
  simp only [Bool.or_eq_false_iff] at hw
  unfold gf_v
  rw [me_a (k := 68) hF hS rfl hw.1, me_a (k := 69) hF hS rfl hw.2]
theorem cv_p_fr {wr : List (Nat × Nat)} (hF : ab_Fr wr h h') (hS : ab_Sh sx_sk h) (hw : (ab_in wr 8704 || ab_in wr 8832 || ab_in wr 9216) = false) : cv_p h' = cv_p h := by
  funext u
  have e := gf_fr (u := u) hF hS (by simp only [Bool.or_eq_false_iff] at hw ⊢; exact hw.1)
  simp only [Bool.or_eq_false_iff] at hw
  unfold cv_p
  rw [e, me_a (k := 68) hF hS rfl hw.1.1, me_a (k := 69) hF hS rfl hw.1.2, me_a (k := 72) hF hS rfl hw.2]
theorem cX_fr {wr : List (Nat × Nat)} (hF : ab_Fr wr h h') (hS : ab_Sh sx_sk h) (hw : (ab_in wr 10112 || ab_in wr 10240 || ab_in wr 10496) = false) : cX h' = cX h := by
  simp only [Bool.or_eq_false_iff] at hw
  unfold cX
  rw [show mi_a h' 79 = mi_a h 79 from funext (fun i => me_a (k := 79) hF hS rfl hw.1.1), show mx_b h' 80 = mx_b h 80 from funext (fun i => me_b (k := 80) hF hS rfl hw.1.2), show mi_a h' 82 = mi_a h 82 from funext (fun i => me_a (k := 82) hF hS rfl hw.2)]
theorem pb_v_01 (s : Int) : pb_v s = 0 ∨ pb_v s = 1 := by unfold pb_v; split <;> omega
theorem cv_v01 {X : sp_X} (h01 : sp_01 70 X) (hg : gf_v h zu = -1 ∨ (0 ≤ gf_v h zu ∧ gf_v h zu < 70)) : sp_v X (cv_p h zu) = 0 ∨ sp_v X (cv_p h zu) = 1 := by
  unfold sp_v
  by_cases c : 0 ≤ (cv_p h zu).1
  · rw [if_pos c]
    have c : 0 ≤ gf_v h zu := c
    exact h01 _ (by show (gf_v h zu).toNat < 70; omega)
  · rw [if_neg c]
    exact pb_v_01 _
def pc_W : List (Nat × Nat) := [(11392, 11393), (11520, 11521)]
theorem me_refreshPart (hS : ab_Sh sx_sk h) (u0 : 0 ≤ zu) (u1 : zu < 60) (hg : gf_v h zu = -1 ∨ (0 ≤ gf_v h zu ∧ gf_v h zu < 70)) (h8 : mi_a h 68 zu.toNat = 8 → 0 ≤ mi_a h 69 zu.toNat ∧ mi_a h 69 zu.toNat < 20) : me_E (d + 3) 70 0 [some (.inr (.inr 78)), some (.inl zu), none, none] [] h (fun w h' => w = none ∧ ab_Sh sx_sk h' ∧ ab_Fr pc_W h h' ∧ (∀ i, mi_a h' 89 i = if i = zu.toNat then sp_v (cX h) (cv_p h zu) else mi_a h 89 i) ∧ ∀ i, mx_b h' 90 i = if i = zu.toNat then sp_s (cX h) (cv_p h zu) else mx_b h 90 i) := by
  have ou : mi_in zu := ⟨by omega, by omega⟩
  refine mt_rqA hS ou (fun h1 g1 g2 => ?_)
  have e0 := me_nil g2
  subst e0
  refine ⟨_, me_gformIn (d := d + 1) hS u0 u1, fun w h2 oww hq => ?_⟩
  obtain ⟨rfl, rfl⟩ := hq
  have og : mi_in (gf_v h2 zu) := ⟨by omega, by omega⟩
  have os : mi_in (mi_a h2 68 zu.toNat) := mi_inT _
  /- a part with no form -/
  have none_ : gf_v h2 zu = -1 → ∀ h3, ab_Sh sx_sk h3 → (∀ i, mi_a h3 89 i = if i = zu.toNat then pb_v (mi_a h2 68 zu.toNat) else mi_a h2 89 i) → (∀ i, mx_b h3 90 i = if i = zu.toNat then Int64.ofNat 0 else mx_b h2 90 i) → ab_Fr pc_W h2 h3 → me_E (d + 3) 70 92 [some (.inr (.inr 78)), some (.inl zu), some (.inl (gf_v h2 zu)), some (.inl (mi_a h2 68 zu.toNat))] [] h3 (fun w h' => w = none ∧ ab_Sh sx_sk h' ∧ ab_Fr pc_W h2 h' ∧ (∀ i, mi_a h' 89 i = if i = zu.toNat then sp_v (cX h2) (cv_p h2 zu) else mi_a h2 89 i) ∧ ∀ i, mx_b h' 90 i = if i = zu.toNat then sp_s (cX h2) (cv_p h2 zu) else mx_b h2 90 i) := by
    intro hn h3 s1 s2 s3 s4
    have nn : ¬ 0 ≤ (cv_p h2 zu).1 := by show ¬ 0 ≤ gf_v h2 zu; omega
    have ev : sp_v (cX h2) (cv_p h2 zu) = pb_v (mi_a h2 68 zu.toNat) := by unfold sp_v; rw [if_neg nn]; rfl
    have es : sp_s (cX h2) (cv_p h2 zu) = pb_s (mi_a h2 68 zu.toNat) (mi_a h2 69 zu.toNat) := by unfold sp_s; rw [if_neg nn]; rfl
    rw [ev, es]
    have e69 : mi_a h3 69 zu.toNat = mi_a h2 69 zu.toNat := me_a (k := 69) s4 hS rfl rfl
    have e89 : ∀ h4, ab_Fr [(11520, 11521)] h3 h4 → ∀ i, mi_a h4 89 i = if i = zu.toNat then pb_v (mi_a h2 68 zu.toNat) else mi_a h2 89 i := fun h4 f4 i => by rw [me_a (k := 89) f4 s1 rfl rfl]; exact s2 i
    have fin : ∀ h4, ab_Sh sx_sk h4 → (∀ i, mx_b h4 90 i = if i = zu.toNat then pb_s (mi_a h2 68 zu.toNat) (mi_a h2 69 zu.toNat) else mx_b h3 90 i) → ab_Fr [(11520, 11521)] h3 h4 → ab_Fr pc_W h2 h4 ∧ (∀ i, mi_a h4 89 i = if i = zu.toNat then pb_v (mi_a h2 68 zu.toNat) else mi_a h2 89 i) ∧ ∀ i, mx_b h4 90 i = if i = zu.toNat then pb_s (mi_a h2 68 zu.toNat) (mi_a h2 69 zu.toNat) else mx_b h2 90 i := fun h4 t1 t2 t3 => by
      refine ⟨s4.trans (t3.wide (fun c hc => ab_swr_ok (by decide) hc)), e89 h4 t3, fun i => ?_⟩
      rw [t2 i, s3 i]
      by_cases ci : i = zu.toNat
      · rw [if_pos ci, if_pos ci]
      · rw [if_neg ci, if_neg ci, if_neg ci]
    refine mt_rqC s1 ou og os ?_ ?_ ?_ ?_ ?_ ?_ ?_ ?_ ?_ ?_
    · intro c1 c2 c3 h4 g1 g2
      have e0 := me_nil g2
      subst e0
      refine ⟨rfl, s1, s4, s2, fun i => ?_⟩
      rw [s3 i]
      unfold pb_s
      rw [if_neg c1, if_neg c2, if_neg c3]
    · intro c1 c2 c3 c4; exfalso; omega
    · intro c1 c2 c3 c4 c5; exfalso; omega
    · intro c1 c2 c3 c4 c5
      have := h8 c3
      rw [e69]
      refine ⟨by omega, fun h4 t1 t2 t3 => ⟨rfl, t1, fin h4 t1 (fun i => ?_) t3⟩⟩
      rw [t2 i]
      unfold pb_s
      rw [if_neg c1, if_neg c2, if_pos c3]
      rfl
    · intro c1 c2 c3; exfalso; omega
    · intro c1 c2 c3 c4; exfalso; omega
    · intro c1 c2 c3 c4
      refine ⟨by omega, fun h4 t1 t2 t3 => ⟨rfl, t1, fin h4 t1 (fun i => ?_) t3⟩⟩
      rw [t2 i]
      unfold pb_s
      rw [if_neg c1, if_pos c2]
      all_goals rfl
    · intro c1 c2; exfalso; omega
    · intro c1 c2 c3; exfalso; omega
    · intro c1 c2 c3
      refine ⟨by omega, fun h4 t1 t2 t3 => ⟨rfl, t1, fin h4 t1 (fun i => ?_) t3⟩⟩
      rw [t2 i]
      unfold pb_s
      rw [if_pos c1]
      all_goals rfl
  refine mt_rqB hS ou og ?_ ?_ ?_ ?_ ?_ ?_ ?_ ?_ ?_ ?_ ?_ ?_ ?_ ?_
  · intro c1 c2; exfalso; omega
  · intro c1 c2 c3; exfalso; omega
  · intro c1 c2 c3 c4
    refine ⟨by omega, fun h3 s1 s2 s3 s4 => none_ c1 h3 s1 (fun i => ?_) s3 s4⟩
    rw [s2 i]
    unfold pb_v
    rw [if_neg (c := 3 ≤ mi_a h2 68 zu.toNat ∧ mi_a h2 68 zu.toNat ≤ 7) (by omega)]
    all_goals rfl
  · intro c1 c2 c3 c4 c5
    refine ⟨by omega, fun h3 s1 s2 s3 s4 => none_ c1 h3 s1 (fun i => ?_) s3 s4⟩
    rw [s2 i]
    unfold pb_v
    rw [if_neg (c := 3 ≤ mi_a h2 68 zu.toNat ∧ mi_a h2 68 zu.toNat ≤ 7) (by omega)]
    all_goals rfl
  · intro c1 c2 c3 c4 c5
    refine ⟨by omega, fun h3 s1 s2 s3 s4 => none_ c1 h3 s1 (fun i => ?_) s3 s4⟩
    rw [s2 i]
    unfold pb_v
    rw [if_pos (c := 3 ≤ mi_a h2 68 zu.toNat ∧ mi_a h2 68 zu.toNat ≤ 7) (by omega)]
    all_goals rfl
  · intro c1 c2 c3; exfalso; omega
  · intro c1 c2 c3 c4; exfalso; omega
  · intro c1 c2 c3 c4; exfalso; omega
  · intro c1 c2 c3 c4; exfalso; omega
  · intro c1 c2 c3 c4 c5; exfalso; omega
  · intro c1 c2 c3 c4 c5; exfalso; omega
  · intro c1 c2 c3 c4; exfalso; omega
  · intro c1 c2 c3 c4 c5; exfalso; omega
  · intro c1 c2 c3 c4 c5
    have pp : 0 ≤ (cv_p h2 zu).1 := c2
    refine ⟨by omega, fun h3 s1 s2 s3 s4 => ⟨rfl, s1, s4, fun i => ?_, fun i => ?_⟩⟩
    · rw [s2 i]
      unfold sp_v
      rw [if_pos pp]
      rfl
    · rw [s3 i]
      unfold sp_s
      rw [if_pos pp]
      rfl
theorem me_mayBePassed (hS : ab_Sh sx_sk h) (u0 : 0 ≤ zu) (u1 : zu < 60) : me_E (d + 2) 74 0 [some (.inr (.inr 78)), some (.inl zu)] [] h (fun w h' => h' = h ∧ ∃ z, w = some (.inl z) ∧ (z = 0 ∨ z = 1) ∧ (z = 1 ↔ (mi_a h 72 zu.toNat ≠ 0 ∨ mi_a h 89 zu.toNat = 1))) := by
  refine mt_mpA hS ⟨by omega, by omega⟩ ?_ ?_ ?_ ?_ ?_
  · intro c1; exfalso; omega
  · intro c1 c2; exfalso; omega
  · intro c1 c2 c3
    exact ⟨by omega, fun h1 g1 g2 => ⟨me_nil g2, 1, rfl, Or.inr rfl, ⟨fun _ => Or.inl c3, fun _ => rfl⟩⟩⟩
  · intro c1 c2 c3 c4
    exact ⟨by omega, fun h1 g1 g2 => ⟨me_nil g2, 0, rfl, Or.inl rfl, ⟨fun q => absurd q (by decide), fun q => (q.elim (fun q => absurd c3 q) (fun q => absurd q c4))⟩⟩⟩
  · intro c1 c2 c3 c4
    exact ⟨by omega, fun h1 g1 g2 => ⟨me_nil g2, 1, rfl, Or.inr rfl, ⟨fun _ => Or.inr c4, fun _ => rfl⟩⟩⟩
theorem me_heightc (hS : ab_Sh sx_sk h) (u0 : 0 ≤ zu) (u1 : zu < 60) (hg : gf_v h zu = -1 ∨ (0 ≤ gf_v h zu ∧ gf_v h zu < 70)) (hH : ∀ F : Nat, F < 70 → mi_a h 82 F ≤ 1000) : me_E (d + 3) 75 0 [some (.inr (.inr 78)), some (.inl zu), none, none] [] h (fun w h' => h' = h ∧ w = some (.inl (min 1000 (sp_h (cX h) (cv_p h zu))))) := by
  have ou : mi_in zu := ⟨by omega, by omega⟩
  refine mt_hgA hS ou (fun h1 g1 g2 => ?_)
  have e0 := me_nil g2
  subst e0
  refine ⟨_, me_gformIn (d := d + 1) hS u0 u1, fun w h2 oww hq => ?_⟩
  obtain ⟨rfl, rfl⟩ := hq
  have og : mi_in (gf_v h2 zu) := ⟨by omega, by omega⟩
  have w0 : mi_a h2 72 zu.toNat ≠ 0 → (cv_p h2 zu).2.2.1 ≠ 0 := fun q => by
    show (if mi_a h2 72 zu.toNat = 0 then (0 : Int) else if mi_a h2 72 zu.toNat = 5 then 1 else 2) ≠ 0
    rw [if_neg q]
    split <;> decide
  have w1 : mi_a h2 72 zu.toNat = 0 → ¬ (cv_p h2 zu).2.2.1 ≠ 0 := fun q => by
    show ¬ (if mi_a h2 72 zu.toNat = 0 then (0 : Int) else if mi_a h2 72 zu.toNat = 5 then 1 else 2) ≠ 0
    rw [if_pos q]
    exact fun x => x rfl
  refine mt_hgB hS ou og ?_ ?_ ?_ ?_ ?_ ?_ ?_ ?_ ?_ ?_ ?_
  · intro c1 h3 g1 g2
    refine ⟨me_nil g2, ?_⟩
    have e : sp_h (cX h2) (cv_p h2 zu) = 0 := by
      unfold sp_h
      rw [if_neg (c := 0 ≤ (cv_p h2 zu).1) (by show ¬ 0 ≤ gf_v h2 zu; omega)]
      split <;> rfl
    rw [e]
    rfl
  · intro c1 c2; exfalso; omega
  · intro c1 c2; exfalso; omega
  · intro c1 c2; exfalso; omega
  · intro c1 c2 c3; exfalso; omega
  · intro c1 c2 c3; exfalso; omega
  · intro c1 c2 c3; exfalso; omega
  · intro c1 c2 c3 c4 c5; exfalso; omega
  · intro c1 c2 c3 c4 c5 c6; exfalso; omega
  · intro c1 c2 c3 c4 c5 c6
    refine ⟨by omega, fun h3 g1 g2 => ?_⟩
    have e0 := me_nil g2
    subst e0
    have hb := hH (gf_v h3 zu).toNat (by omega)
    have hi : mi_in (mi_a h3 82 (gf_v h3 zu).toNat) := mi_inT _
    have e : sp_h (cX h3) (cv_p h3 zu) = mi_a h3 82 (gf_v h3 zu).toNat + (if mi_a h3 68 zu.toNat = 9 then 1 else 0) := by
      unfold sp_h
      rw [if_neg (w1 c4), if_pos (c := 0 ≤ (cv_p h3 zu).1) c5]
      rfl
    rw [e]
    refine mt_hgC hS ou og hi ?_ ?_ ?_ ?_ ?_
    · intro k1; exfalso; omega
    · intro k1 k2; exfalso; omega
    · intro k1 k2 k3
      refine ⟨by omega, fun h4 g1 g2 => ⟨me_nil g2, ?_⟩⟩
      rw [if_neg k3]
      congr 2
      omega
    · intro k1 k2 k3 k4
      refine ⟨by have := hi.1; omega, fun h4 g1 g2 => ⟨me_nil g2, ?_⟩⟩
      rw [if_pos k3]
      congr 2
      omega
    · intro k1 k2 k3 k4
      refine ⟨by have := hi.1; omega, fun h4 g1 g2 => ⟨me_nil g2, ?_⟩⟩
      rw [if_pos k3]
      congr 2
      omega
  · intro c1 c2 c3 c4
    refine ⟨by omega, fun h3 g1 g2 => ⟨me_nil g2, ?_⟩⟩
    have e : sp_h (cX h2) (cv_p h2 zu) = 0 := by
      unfold sp_h
      rw [if_pos (w0 c4)]
    rw [e]
    rfl
theorem me_beginsc (hS : ab_Sh sx_sk h) (ou : mi_in zu) : me_E (d + 2) 73 0 [some (.inr (.inr 78)), some (.inl zu), none, none] [] h (fun w h' => h' = h ∧ ∃ z, w = some (.inl z) ∧ mi_in z) := by
  have := me_abs (as := [.inr (.inr 78), .inl zu]) xo_99 rfl hS ⟨rfl, me_nv1 ou ou.1 ou.2, trivial⟩ (fun e he => by cases he) (by decide)
  refine (me_E.deep (d' := d + 2) this (by show 2 ≤ d + 2; omega)).imp (fun w h' hq => ?_)
  obtain ⟨q1, q2, p, hp, q3, -⟩ := hq
  refine ⟨me_nil q2, ?_⟩
  rcases List.mem_cons.mp hp with rfl | hp
  · obtain ⟨z, e1, e2, e3⟩ := me_resI q3 (by decide) rfl
    exact ⟨z, e1, e2, e3⟩
  · cases hp
end CVP
/-! the class's Sets: an alternative -/
def ra_V : List (Nat × Nat) := [(10752, 10753), (10880, 10881), (11008, 11009), (11136, 11137), (11392, 11393), (11520, 11521)]
/-- a part's own void and starts are as X has it -/
def pt_ok (P : Int → sp_P) (X : sp_X) (h : sm_H) (u : Nat) : Prop := mi_a h 89 u = sp_v X (P u) ∧ mx_b h 90 u = sp_s X (P u)
def pt_same (h h' : sm_H) (u : Nat) : Prop := mi_a h' 89 u = mi_a h 89 u ∧ mx_b h' 90 u = mx_b h 90 u
def ra_Q (hb h : sm_H) (za ze zh : Int) (zs : Int64) (row : List Int) (w : Option mi_V) (h' : sm_H) : Prop := w = none ∧ ab_Sh sx_sk h' ∧ ab_Fr ra_V hb h' ∧
  mi_a h' 84 za.toNat = (if ze ≠ 0 then sa_v (cX hb) (row.map (cv_p hb)) else 0) ∧ mx_b h' 85 za.toNat = (if ze ≠ 0 then zs ||| sa_s (cX hb) (row.map (cv_p hb)) else zs) ∧ mi_a h' 87 za.toNat = max zh (min 1000 (sa_h (cX hb) (row.map (cv_p hb)))) ∧
  (∀ u : Nat, (u : Int) ∈ row → pt_ok (cv_p hb) (cX hb) h' u) ∧ ∀ u : Nat, (u : Int) ∉ row → pt_same h h' u
theorem or_0r (x : Int64) : x ||| 0 = x := tb_ext (fun b => by rw [tb_or, tb_0, Bool.or_false])
theorem or_as (x y z : Int64) : x ||| y ||| z = x ||| (y ||| z) := tb_ext (fun b => by rw [tb_or, tb_or, tb_or, tb_or, Bool.or_assoc])
section RAL
variable {d : Nat} {hb : sm_H} {U za : Int}
theorem ra_exit {ze zb zh zp zn : Int} {zs : Int64} {h : sm_H} (a0 : 0 ≤ za) (a1 : za < 66) (hS : ab_Sh sx_sk h) (hF : ab_Fr ra_V hb h) (e01 : ze = 0 ∨ ze = 1) (ob : mi_in zb) (oh : mi_in zh) (h0 : 0 ≤ zh) (op : mi_in zp) (on : mi_in zn) : me_E (d + 4) 69 124 [some (.inr (.inr 78)), some (.inl za), some (.inl ze), some (.inr (.inl zs)), none, some (.inl zb), some (.inl zh), some (.inl zp), some (.inl zn)] [] h (ra_Q hb h za ze zh zs []) := by
  have oa : mi_in za := ⟨by omega, by omega⟩
  have oe : mi_in ze := ⟨by omega, by omega⟩
  refine mt_raH hS oa oe ob oh op on ?_ ?_ ?_ ?_ ?_ ?_
  · intro c1 c2; exfalso; omega
  · intro c1 c2 c3; exfalso; omega
  · intro c1 c2 c3
    refine ⟨by omega, fun h1 s1 s2 s3 s4 s5 s6 => ⟨rfl, s1, hF.trans (s6.wide (fun c hc => ab_swr_ok (by decide) hc)), ?_, ?_, ?_, fun u hu => absurd hu List.not_mem_nil, fun u _ => ⟨me_a (k := 89) s6 hS rfl rfl, me_b (k := 90) s6 hS rfl rfl⟩⟩⟩
    · rw [s2, if_pos rfl, if_neg (fun q => q c1)]
    · rw [s5, if_pos rfl, if_neg (fun q => q c1)]
    · rw [s4, if_pos rfl]
      show zh = max zh (min 1000 0)
      omega
  · intro c1 c2; exfalso; omega
  · intro c1 c2 c3; exfalso; omega
  · intro c1 c2 c3
    refine ⟨by omega, fun h1 s1 s2 s3 s4 s5 s6 => ⟨rfl, s1, hF.trans (s6.wide (fun c hc => ab_swr_ok (by decide) hc)), ?_, ?_, ?_, fun u hu => absurd hu List.not_mem_nil, fun u _ => ⟨me_a (k := 89) s6 hS rfl rfl, me_b (k := 90) s6 hS rfl rfl⟩⟩⟩
    · rw [s2, if_pos rfl, if_pos c1]
      rfl
    · rw [s5, if_pos rfl, if_pos c1]
      exact (or_0r zs).symm
    · rw [s4, if_pos rfl]
      show zh = max zh (min 1000 0)
      omega
theorem ra_loop (hSb : ab_Sh sx_sk hb) (hU : cv_u hb U) (h01 : sp_01 70 (cX hb)) (hH : ∀ F : Nat, F < 70 → mi_a hb 82 F ≤ 1000) (a0 : 0 ≤ za) (a1 : za < 66) : ∀ (N : Nat) (ze zb zh zp zn : Int) (zs : Int64) (h : sm_H), (N : Int) = 60 - zn → 0 ≤ zn → (ze = 0 ∨ ze = 1) → mi_in zb → 0 ≤ zh → zh ≤ 1000 → (zp = -1 ∨ (0 ≤ zp ∧ zp < U)) → ab_Sh sx_sk h → ab_Fr ra_V hb h → me_E (d + 4) 69 26 [some (.inr (.inr 78)), some (.inl za), some (.inl ze), some (.inr (.inl zs)), none, some (.inl zb), some (.inl zh), some (.inl zp), some (.inl zn)] [] h (ra_Q hb h za ze zh zs (cv_row hb N zp)) := by
  have oa : mi_in za := ⟨by omega, by omega⟩
  have hU60 := hU.1
  intro N
  induction N with
  | zero =>
    intro ze zb zh zp zn zs h hN n0 e01 ob h0 h1 hp hS hF
    have oe : mi_in ze := ⟨by omega, by omega⟩
    have oh : mi_in zh := ⟨by omega, by omega⟩
    have op : mi_in zp := ⟨by omega, by omega⟩
    have on : mi_in zn := ⟨by omega, by omega⟩
    refine mt_raB hS oa oe ob oh op on ?_ ?_ ?_
    · intro c1 h2 g1 g2
      have e0 := me_nil g2
      subst e0
      exact ra_exit a0 a1 hS hF e01 ob oh h0 op on
    · intro c1 c2 h2 g1 g2
      have e0 := me_nil g2
      subst e0
      exact ra_exit a0 a1 hS hF e01 ob oh h0 op on
    · intro c1 c2; exfalso; omega
  | succ N ih =>
    intro ze zb zh zp zn zs h hN n0 e01 ob h0 h1 hp hS hF
    have oe : mi_in ze := ⟨by omega, by omega⟩
    have oh : mi_in zh := ⟨by omega, by omega⟩
    have op : mi_in zp := ⟨by omega, by omega⟩
    have on : mi_in zn := ⟨by omega, by omega⟩
    refine mt_raB hS oa oe ob oh op on ?_ ?_ ?_
    · intro c1 h2 g1 g2
      have e0 := me_nil g2
      subst e0
      have er : cv_row hb (N + 1) zp = [] := by rw [cv_row_c, if_pos c1]
      rw [er]
      exact ra_exit a0 a1 hS hF e01 ob oh h0 op on
    · intro c1 c2; exfalso; omega
    · intro c1 c2 h2 g1 g2
      have e0 := me_nil g2
      subst e0
      have p01 : 0 ≤ zp ∧ zp < U := hp.resolve_left c1
      obtain ⟨w1, w2, w3⟩ := hU.2 zp p01.1 p01.2
      have er : cv_row hb (N + 1) zp = zp :: cv_row hb N (mi_a hb 71 zp.toNat) := by rw [cv_row_c, if_neg c1]
      have eP : cv_p h2 = cv_p hb := cv_p_fr hF hSb rfl
      have eX : cX h2 = cX hb := cX_fr hF hSb rfl
      have eg : gf_v h2 zp = gf_v hb zp := gf_fr hF hSb rfl
      refine ⟨_, me_refreshPart (d := d) hS p01.1 (by omega) (by rw [eg]; exact w2) (by rw [me_a (k := 68) hF hSb rfl rfl, me_a (k := 69) hF hSb rfl rfl]; exact w3), fun w h3 oww hq => ?_⟩
      obtain ⟨rfl, s1, s2, s3, s4⟩ := hq
      rw [eP, eX] at s3 s4
      have F3 : ab_Fr ra_V hb h3 := hF.trans (s2.wide (fun c hc => ab_swr_ok (by decide) hc))
      have p89 : mi_a h3 89 zp.toNat = sp_v (cX hb) (cv_p hb zp) := by rw [s3, if_pos rfl]
      have p90 : mx_b h3 90 zp.toNat = sp_s (cX hb) (cv_p hb zp) := by rw [s4, if_pos rfl]
      have e71 : mi_a h3 71 zp.toNat = mi_a hb 71 zp.toNat := me_a (k := 71) F3 hSb rfl rfl
      have e72 : mi_a h3 72 zp.toNat = mi_a hb 72 zp.toNat := me_a (k := 72) F3 hSb rfl rfl
      have ez : (zp.toNat : Int) = zp := Int.toNat_of_nonneg p01.1
      /- behind this part -/
      have T99 : ∀ (ze' zb' : Int) (zs' : Int64), (ze' = 0 ∨ ze' = 1) → mi_in zb' → (ze' ≠ 0 ↔ (ze ≠ 0 ∧ sp_e (cX hb) (cv_p hb zp))) → zs' = (if ze ≠ 0 then zs ||| sp_s (cX hb) (cv_p hb zp) else zs) → me_E (d + 4) 69 99 [some (.inr (.inr 78)), some (.inl za), some (.inl ze'), some (.inr (.inl zs')), none, some (.inl zb'), some (.inl zh), some (.inl zp), some (.inl zn)] [.inl (min 1000 (sp_h (cX hb) (cv_p hb zp))), .inl zh] h3 (ra_Q hb h2 za ze zh zs (cv_row hb (N + 1) zp)) := by
        intro ze' zb' zs' q1 q2 q3 q4
        have oe' : mi_in ze' := ⟨by omega, by omega⟩
        have oc : mi_in (min 1000 (sp_h (cX hb) (cv_p hb zp))) := by
          have : -2147483648 ≤ sp_h (cX hb) (cv_p hb zp) := by
            unfold sp_h
            split
            · decide
            · split
              · have x := (mi_inT (mx_a hb 82 (cv_p hb zp).1.toNat)).1
                have x : -2147483648 ≤ mi_a hb 82 (cv_p hb zp).1.toNat := x
                show -2147483648 ≤ mi_a hb 82 (cv_p hb zp).1.toNat + (if mi_a hb 68 zp.toNat = 9 then 1 else 0)
                split <;> omega
              · decide
          exact ⟨by omega, by omega⟩
        have go : ∀ zm, zm = max zh (min 1000 (sp_h (cX hb) (cv_p hb zp))) → me_E (d + 4) 69 26 [some (.inr (.inr 78)), some (.inl za), some (.inl ze'), some (.inr (.inl zs')), none, some (.inl zb'), some (.inl zm), some (.inl (mi_a h3 71 (Int.toNat zp))), some (.inl (zn + 1))] [] h3 (ra_Q hb h2 za ze zh zs (cv_row hb (N + 1) zp)) := by
          intro zm ezm
          rw [e71]
          refine (ih ze' zb' zm (mi_a hb 71 zp.toNat) (zn + 1) zs' h3 (by omega) (by omega) q1 q2 (by omega) (by omega) (by omega) s1 F3).imp (fun w h' hq => ?_)
          obtain ⟨r1, r2, r3, r4, r5, r6, r7, r8⟩ := hq
          rw [er]
          refine ⟨r1, r2, r3, ?_, ?_, ?_, fun u hu => ?_, fun u hu => ?_⟩
          · rw [r4, List.map_cons]
            rw [sa_v_c]
            by_cases ce : ze ≠ 0
            · rw [if_pos ce]
              by_cases cp : sp_e (cX hb) (cv_p hb zp)
              · rw [if_pos cp, if_pos (q3.mpr ⟨ce, cp⟩)]
              · rw [if_neg cp, if_neg (fun q => cp (q3.mp q).2)]
            · rw [if_neg ce, if_neg (fun q => ce (q3.mp q).1)]
          · rw [r5, q4, List.map_cons]
            rw [sa_s_c]
            by_cases ce : ze ≠ 0
            · rw [if_pos ce, if_pos ce]
              by_cases cp : sp_e (cX hb) (cv_p hb zp)
              · rw [if_pos cp, if_pos (q3.mpr ⟨ce, cp⟩), or_as]
              · rw [if_neg cp, if_neg (fun q => cp (q3.mp q).2)]
            · rw [if_neg ce, if_neg ce, if_neg (fun q => ce (q3.mp q).1)]
          · rw [r6, ezm, List.map_cons]
            rw [sa_h_c]
            omega
          · by_cases cm : (u : Int) ∈ cv_row hb N (mi_a hb 71 zp.toNat)
            · exact r7 u cm
            · rcases List.mem_cons.mp hu with hu | hu
              · have eu : u = zp.toNat := by omega
                obtain ⟨x1, x2⟩ := r8 u cm
                unfold pt_ok
                rw [x1, x2, eu, p89, p90, ez]
                exact ⟨rfl, rfl⟩
              · exact absurd hu cm
          · obtain ⟨x1, x2⟩ := r8 u (fun q => hu (List.mem_cons_of_mem _ q))
            have nu : u ≠ zp.toNat := fun q => hu (by rw [q, ez]; exact List.mem_cons_self)
            unfold pt_same
            rw [x1, x2, s3, s4, if_neg nu, if_neg nu]
            exact ⟨rfl, rfl⟩
        refine mt_raG s1 oa oe' q2 oh op on oc oh ?_ ?_ ?_ ?_ ?_ ?_
        · intro k1 k2; exfalso; omega
        · intro k1 k2 k3; exfalso; omega
        · intro k1 k2 k3
          refine ⟨by omega, fun h4 g1 g2 => ?_⟩
          have e0 := me_nil g2
          subst e0
          exact go _ (by omega)
        · intro k1 k2; exfalso; omega
        · intro k1 k2 k3; exfalso; omega
        · intro k1 k2 k3
          refine ⟨by omega, fun h4 g1 g2 => ?_⟩
          have e0 := me_nil g2
          subst e0
          exact go _ (by omega)
      have HC : ∀ h4, h4 = h3 → me_E (d + 3) 75 0 [some (.inr (.inr 78)), some (.inl zp), none, none] [] h4 (fun w h' => h' = h4 ∧ w = some (.inl (min 1000 (sp_h (cX hb) (cv_p hb zp))))) := by
        intro h4 e4
        subst e4
        have := me_heightc (d := d) (zu := zp) s1 p01.1 (by omega) (by rw [gf_fr F3 hSb rfl]; exact w2) (fun F hF' => by rw [me_a (k := 82) F3 hSb rfl rfl]; exact hH F hF')
        rw [cv_p_fr F3 hSb rfl, cX_fr F3 hSb rfl] at this
        exact this
      have ie : sp_e (cX hb) (cv_p hb zp) ↔ (mi_a h3 72 zp.toNat ≠ 0 ∨ mi_a h3 89 zp.toNat = 1) := by
        unfold sp_e
        rw [e72, p89]
        have v01 := cv_v01 (zu := zp) h01 w2
        constructor
        · rintro (q | q)
          · refine Or.inl (fun x => q ?_)
            show (if mi_a hb 72 zp.toNat = 0 then (0 : Int) else if mi_a hb 72 zp.toNat = 5 then 1 else 2) = 0
            rw [if_pos x]
          · exact Or.inr (v01.resolve_left q)
        · rintro (q | q)
          · refine Or.inl ?_
            show (if mi_a hb 72 zp.toNat = 0 then (0 : Int) else if mi_a hb 72 zp.toNat = 5 then 1 else 2) ≠ 0
            rw [if_neg q]
            split <;> decide
          · exact Or.inr (by rw [q]; decide)
      have T72 : ∀ (zb' : Int) (zs' : Int64), mi_in zb' → zs' = (if ze ≠ 0 then zs ||| sp_s (cX hb) (cv_p hb zp) else zs) → me_E (d + 4) 69 72 [some (.inr (.inr 78)), some (.inl za), some (.inl ze), some (.inr (.inl zs')), none, some (.inl zb'), some (.inl zh), some (.inl zp), some (.inl zn)] [] h3 (ra_Q hb h2 za ze zh zs (cv_row hb (N + 1) zp)) := by
        intro zb' zs' q2 q4
        refine mt_raE s1 oa oe q2 oh op on ?_ ?_
        · intro k1 h4 g1 g2
          have e0 := me_nil g2
          refine ⟨_, HC h4 e0, fun w h5 oww hq => ?_⟩
          obtain ⟨rfl, rfl⟩ := hq
          rw [e0]
          exact T99 0 zb' zs' (Or.inl rfl) q2 ⟨fun q => absurd rfl q, fun q => absurd k1 q.1⟩ q4
        · intro k1 h4 g1 g2
          have e0 := me_nil g2
          subst e0
          refine ⟨_, me_mayBePassed (d := d + 1) s1 p01.1 (by omega), fun w h5 oww hq => ?_⟩
          obtain ⟨rfl, z, rfl, z01, hz⟩ := hq
          refine mt_raF s1 oa oe q2 oh op on ⟨by omega, by omega⟩ ?_ ?_
          · intro k2 h6 g1 g2
            have e0 := me_nil g2
            refine ⟨_, HC h6 e0, fun w h7 oww hq => ?_⟩
            obtain ⟨rfl, rfl⟩ := hq
            rw [e0]
            exact T99 0 zb' zs' (Or.inl rfl) q2 ⟨fun q => absurd rfl q, fun q => by have := hz.mpr (ie.mp q.2); omega⟩ q4
          · intro k2 h6 g1 g2
            have e0 := me_nil g2
            refine ⟨_, HC h6 e0, fun w h7 oww hq => ?_⟩
            obtain ⟨rfl, rfl⟩ := hq
            rw [e0]
            exact T99 1 zb' zs' (Or.inr rfl) q2 ⟨fun _ => ⟨k1, ie.mpr (hz.mp (by omega))⟩, fun _ => by decide⟩ q4
      refine mt_raC s1 oa oe ob oh op on ?_ ?_ ?_ ?_
      · intro k1 h4 g1 g2
        have e0 := me_nil g2
        subst e0
        exact T72 zb zs ob (by rw [if_neg (fun q => q k1)])
      · intro k1 k2; exfalso; omega
      · intro k1 k2 k3; exfalso; omega
      · intro k1 k2 k3
        refine ⟨by omega, fun h4 g1 g2 => ?_⟩
        have e0 := me_nil g2
        subst e0
        refine ⟨_, me_beginsc (d := d + 1) s1 op, fun w h5 oww hq => ?_⟩
        obtain ⟨rfl, z, rfl, oz⟩ := hq
        refine mt_raD s1 oa oe ob oh op on oz ob (fun h6 g1 g2 => ?_)
        have e0 := me_nil g2
        subst e0
        refine T72 _ _ (mi_inT _) ?_
        rw [if_pos k1, p90]
theorem me_refreshAlternative {h : sm_H} (hSb : ab_Sh sx_sk hb) (hU : cv_u hb U) (h01 : sp_01 70 (cX hb)) (hH : ∀ F : Nat, F < 70 → mi_a hb 82 F ≤ 1000) (a0 : 0 ≤ za) (a1 : za < 66) (hp : mi_a hb 65 za.toNat = -1 ∨ (0 ≤ mi_a hb 65 za.toNat ∧ mi_a hb 65 za.toNat < U)) (hS : ab_Sh sx_sk h) (hF : ab_Fr ra_V hb h) : me_E (d + 4) 69 0 [some (.inr (.inr 78)), some (.inl za), none, none, none, none, none, none, none] [] h (ra_Q hb h za 1 0 0 (cv_row hb 60 (mi_a hb 65 za.toNat))) := by
  refine mt_raA hS ⟨by omega, by omega⟩ ?_ ?_ ?_
  · intro c1; exfalso; omega
  · intro c1 c2; exfalso; omega
  · intro c1 c2
    refine ⟨by omega, fun h1 g1 g2 => ?_⟩
    have e0 := me_nil g2
    subst e0
    rw [me_a (k := 65) hF hSb rfl rfl]
    exact ra_loop hSb hU h01 hH a0 a1 60 1 0 0 _ 0 0 h1 (by decide) (by decide) (Or.inr rfl) fm_in0 (by decide) (by decide) hp hS hF
end RAL
/-! the class's Sets: a form -/
def cv_as (h : sm_H) : Nat → Int → List Int
  | 0, _ => []
  | m + 1, a => a :: cv_as h m (mi_a h 66 a.toNat)
def cv_l (h : sm_H) (a : Int) : List Int := cv_row h 60 (mi_a h 65 a.toNat)
def cv_n (h : sm_H) (F : Nat) : Nat := (min 6 (mi_a h 64 F)).toNat
def GC (h : sm_H) : sg_G := fun F => (cv_as h (cv_n h F) (mi_a h 63 F)).map (fun a => (cv_l h a).map (cv_p h))
/-- the alternatives' numbers are in their range -/
def cv_al (h : sm_H) (U : Int) : Nat → Int → Prop
  | 0, _ => True
  | m + 1, a => (0 ≤ a ∧ a < 66) ∧ (mi_a h 65 a.toNat = -1 ∨ (0 ≤ mi_a h 65 a.toNat ∧ mi_a h 65 a.toNat < U)) ∧ cv_al h U m (mi_a h 66 a.toNat)
theorem sa_h_0 (X : sp_X) : ∀ us, 0 ≤ sa_h X us := by
  intro us
  induction us with
  | nil => exact Int.le_refl _
  | cons p r ih => unfold sa_h; omega
theorem or_01 {a b : Int} (ha : a = 0 ∨ a = 1) (hb : b = 0 ∨ b = 1) : (Int32.ofInt a ||| Int32.ofInt b).toInt = if a ≠ 0 ∨ b ≠ 0 then 1 else 0 := by
  rcases ha with rfl | rfl <;> rcases hb with rfl | rfl <;> rfl
theorem lg_eq {a b : Int64} : (lg_cmp a b).toInt = 0 ↔ a = b := by
  unfold lg_cmp
  constructor
  · intro h
    by_cases c1 : a > b
    · simp only [c1, if_true] at h
      exact absurd h (by decide)
    · by_cases c2 : a = b
      · exact c2
      · simp only [c1, c2, if_false] at h
        exact absurd h (by decide)
  · intro h
    subst h
    simp
def rm_W : List (Nat × Nat) := [(9999, 10000), (10112, 10113), (10240, 10241), (10496, 10497), (10624, 10625), (10752, 10753), (10880, 10881), (11008, 11009), (11136, 11137), (11392, 11393), (11520, 11521)]
def rm_Q (hb : sm_H) (zf : Int) (w : Option mi_V) (h' : sm_H) : Prop := w = none ∧ ab_Sh sx_sk h' ∧ ab_Fr rm_W hb h' ∧ cX h' = su (GC hb) zf.toNat (cX hb) ∧ (mi_f h' 9999 = 0 → mi_f hb 9999 = 0 ∧ cX h' = cX hb) ∧
  (∀ u : Nat, (∃ a ∈ cv_as hb (cv_n hb zf.toNat) (mi_a hb 63 zf.toNat), (u : Int) ∈ cv_l hb a) → pt_ok (cv_p hb) (cX hb) h' u) ∧ ∀ u : Nat, (∀ a ∈ cv_as hb (cv_n hb zf.toNat) (mi_a hb 63 zf.toNat), (u : Int) ∉ cv_l hb a) → pt_same hb h' u
section RMF
variable {d : Nat} {hb : sm_H} {U zf : Int}
/-- the loop is through: as is what was looked at -/
theorem rm_exit {as : List Int} {ze zb zh za zn : Int} {zs : Int64} {h : sm_H} (hSb : ab_Sh sx_sk hb) (f0 : 0 ≤ zf) (f1 : zf < 70) (hS : ab_Sh sx_sk h) (hF : ab_Fr ra_V hb h) (eas : as = cv_as hb (cv_n hb zf.toNat) (mi_a hb 63 zf.toNat)) (ev : ze = sf_v (cX hb) (as.map (fun a => (cv_l hb a).map (cv_p hb)))) (es : zs = sf_s (cX hb) (as.map (fun a => (cv_l hb a).map (cv_p hb)))) (eh : zh = sf_h (cX hb) (as.map (fun a => (cv_l hb a).map (cv_p hb)))) (p1 : ∀ u : Nat, (∃ a ∈ as, (u : Int) ∈ cv_l hb a) → pt_ok (cv_p hb) (cX hb) h u) (p2 : ∀ u : Nat, (∀ a ∈ as, (u : Int) ∉ cv_l hb a) → pt_same hb h u) (oe : mi_in ze) (ob : mi_in zb) (oh : mi_in zh) (oa : mi_in za) (on : mi_in zn) : me_E (d + 5) 68 131 [some (.inr (.inr 78)), some (.inl zf), some (.inl ze), some (.inr (.inl zs)), none, some (.inl zb), some (.inl zh), some (.inl za), some (.inl zn)] [] h (rm_Q hb zf) := by
  have of : mi_in zf := ⟨by omega, by omega⟩
  have eG : as.map (fun a => (cv_l hb a).map (cv_p hb)) = GC hb zf.toNat := by rw [eas]; rfl
  rw [eG] at ev es eh
  have e79 : mi_a h 79 zf.toNat = mi_a hb 79 zf.toNat := me_a (k := 79) hF hSb rfl rfl
  have e82 : mi_a h 82 zf.toNat = mi_a hb 82 zf.toNat := me_a (k := 82) hF hSb rfl rfl
  have e80 : mx_b h 80 zf.toNat = mx_b hb 80 zf.toNat := me_b (k := 80) hF hSb rfl rfl
  have e99 : mi_f h 9999 = mi_f hb 9999 := me_f (c := 9999) hF hSb rfl rfl
  have go : ∀ h1, ab_Sh sx_sk h1 → ab_Fr [(9999, 10000)] h h1 → (mi_f h1 9999 = 0 → mi_f h 9999 = 0 ∧ ze = mi_a h 79 zf.toNat ∧ zs = mx_b h 80 zf.toNat ∧ zh = mi_a h 82 zf.toNat) → me_E (d + 5) 68 198 [some (.inr (.inr 78)), some (.inl zf), some (.inl ze), some (.inr (.inl zs)), none, some (.inl zb), some (.inl zh), some (.inl za), some (.inl zn)] [] h1 (rm_Q hb zf) := by
    intro h1 s1 s2 s3
    refine mt_rmE s1 of oe ob oh oa on ?_ ?_ ?_
    · intro c1; exfalso; omega
    · intro c1 c2; exfalso; omega
    · intro c1 c2
      refine ⟨by omega, fun h2 t1 t2 t3 t4 t5 t6 => ?_⟩
      have F1 : ab_Fr rm_W hb h1 := (hF.wide (fun c hc => ab_swr_ok (by decide) hc)).trans (s2.wide (fun c hc => ab_swr_ok (by decide) hc))
      have F2 : ab_Fr rm_W hb h2 := F1.trans (t6.wide (fun c hc => ab_swr_ok (by decide) hc))
      have a79 : ∀ i, mi_a h1 79 i = mi_a hb 79 i := fun i => (me_a (k := 79) s2 hS rfl rfl).trans (me_a (k := 79) hF hSb rfl rfl)
      have a82 : ∀ i, mi_a h1 82 i = mi_a hb 82 i := fun i => (me_a (k := 82) s2 hS rfl rfl).trans (me_a (k := 82) hF hSb rfl rfl)
      have a80 : ∀ i, mx_b h1 80 i = mx_b hb 80 i := fun i => (me_b (k := 80) s2 hS rfl rfl).trans (me_b (k := 80) hF hSb rfl rfl)
      have a89 : ∀ i, mi_a h2 89 i = mi_a h 89 i := fun i => (me_a (k := 89) t6 s1 rfl rfl).trans (me_a (k := 89) s2 hS rfl rfl)
      have a90 : ∀ i, mx_b h2 90 i = mx_b h 90 i := fun i => (me_b (k := 90) t6 s1 rfl rfl).trans (me_b (k := 90) s2 hS rfl rfl)
      have eX : cX h2 = su (GC hb) zf.toNat (cX hb) := by
        unfold cX su
        refine Prod.ext (funext fun i => ?_) (Prod.ext (funext fun i => ?_) (funext fun i => ?_))
        · show mi_a h2 79 i = if i = zf.toNat then _ else mi_a hb 79 i
          rw [t2, a79, ev]
          all_goals rfl
        · show mx_b h2 80 i = if i = zf.toNat then _ else mx_b hb 80 i
          rw [t5, a80, es]
          all_goals rfl
        · show mi_a h2 82 i = if i = zf.toNat then _ else mi_a hb 82 i
          rw [t3, a82, eh]
          all_goals rfl
      refine ⟨rfl, t1, F2, eX, fun q => ?_, fun u hu => ?_, fun u hu => ?_⟩
      · have q1 : mi_f h1 9999 = 0 := (me_f (c := 9999) t6 s1 rfl rfl).symm.trans q
        obtain ⟨x1, x2, x3, x4⟩ := s3 q1
        refine ⟨e99.symm.trans x1, ?_⟩
        rw [e79] at x2
        rw [e80] at x3
        rw [e82] at x4
        unfold cX
        refine Prod.ext (funext fun i => ?_) (Prod.ext (funext fun i => ?_) (funext fun i => ?_))
        · show mi_a h2 79 i = mi_a hb 79 i
          rw [t2, a79]
          by_cases ci : i = zf.toNat
          · rw [if_pos ci, ci]; exact x2
          · rw [if_neg ci]
        · show mx_b h2 80 i = mx_b hb 80 i
          rw [t5, a80]
          by_cases ci : i = zf.toNat
          · rw [if_pos ci, ci]; exact x3
          · rw [if_neg ci]
        · show mi_a h2 82 i = mi_a hb 82 i
          rw [t3, a82]
          by_cases ci : i = zf.toNat
          · rw [if_pos ci, ci]; exact x4
          · rw [if_neg ci]
      · rw [← eas] at hu
        obtain ⟨x1, x2⟩ := p1 u hu
        exact ⟨(a89 u).trans x1, (a90 u).trans x2⟩
      · rw [← eas] at hu
        obtain ⟨x1, x2⟩ := p2 u hu
        exact ⟨(a89 u).trans x1, (a90 u).trans x2⟩
  refine mt_rmD hS of oe ob oh oa on ?_ ?_ ?_ ?_ ?_ ?_ ?_ ?_ ?_ ?_ ?_ ?_ ?_ ?_ ?_ ?_
  · intro b k1 h1 s1 s2 s3
    exact go h1 s1 s3 (fun q => by omega)
  · intro b k1 k2; exfalso; omega
  · intro b k1 k2; exfalso; omega
  · intro b k1 k2; exfalso; omega
  · intro b k1 k2; exfalso; omega
  · intro b k1 k2; exfalso; omega
  · intro b k1 k2 k3; exfalso; omega
  · intro b k1 k2 k3; exfalso; omega
  · intro b k1 k2 k3; exfalso; omega
  · intro b k1 k2 k3; exfalso; omega
  · intro b k1 k2 k3; exfalso; omega
  · intro b k1 k2 k3 k4
    exact ⟨by omega, fun h1 s1 s2 s3 => go h1 s1 s3 (fun q => by omega)⟩
  · intro b k1 k2 k3 k4 k5
    exact ⟨by omega, fun h1 s1 s2 s3 => go h1 s1 s3 (fun q => by omega)⟩
  · intro b k1 k2 k3 k4 k5 k6
    exact ⟨by omega, fun h1 s1 s2 s3 => go h1 s1 s3 (fun q => by omega)⟩
  · intro b k1 k2 k3 k4 k5 k6 k7
    exact ⟨by omega, fun h1 s1 s2 s3 => go h1 s1 s3 (fun q => ⟨k1, k4, lg_eq.mp k5, k7⟩)⟩
  · intro b k1 k2 k3 k4 k5 k6 k7
    exact ⟨by omega, fun h1 s1 s2 s3 => go h1 s1 s3 (fun q => by omega)⟩
theorem sf_app (X : sp_X) : ∀ (as bs : List (List sp_P)), sf_v X (as ++ bs) = (if sf_v X as ≠ 0 then 1 else sf_v X bs) ∧ sf_s X (as ++ bs) = sf_s X as ||| sf_s X bs ∧ sf_h X (as ++ bs) = min (sf_h X as) (sf_h X bs) := by
  intro as bs
  induction as with
  | nil =>
    have := sf_h_1000 X bs
    refine ⟨rfl, ?_, ?_⟩
    · show sf_s X bs = 0 ||| sf_s X bs
      exact tb_ext (fun b => by rw [tb_or, tb_0, Bool.false_or])
    · show sf_h X bs = min 1000 (sf_h X bs)
      omega
  | cons a r ih =>
    obtain ⟨i1, i2, i3⟩ := ih
    rw [List.cons_append]
    rw [sf_v_c, sf_v_c, sf_s_c, sf_s_c, sf_h_c, sf_h_c, i1, i2, i3]
    refine ⟨?_, (or_as _ _ _).symm, by omega⟩
    by_cases c : sa_v X a ≠ 0
    · rw [if_pos c, if_pos c, if_pos (by decide)]
    · rw [if_neg c, if_neg c]
theorem rm_loop (hSb : ab_Sh sx_sk hb) (hU : cv_u hb U) (h01 : sp_01 70 (cX hb)) (hH : ∀ F : Nat, F < 70 → mi_a hb 82 F ≤ 1000) (f0 : 0 ≤ zf) (f1 : zf < 70) : ∀ (m : Nat) (as : List Int) (ze zb zh za zn : Int) (zs : Int64) (h : sm_H), (m : Int) + zn = cv_n hb zf.toNat → 0 ≤ zn → cv_al hb U m za → as ++ cv_as hb m za = cv_as hb (cv_n hb zf.toNat) (mi_a hb 63 zf.toNat) → mi_in zb → mi_in za → ze = sf_v (cX hb) (as.map (fun a => (cv_l hb a).map (cv_p hb))) → zs = sf_s (cX hb) (as.map (fun a => (cv_l hb a).map (cv_p hb))) → zh = sf_h (cX hb) (as.map (fun a => (cv_l hb a).map (cv_p hb))) → 0 ≤ zh → (∀ u : Nat, (∃ a ∈ as, (u : Int) ∈ cv_l hb a) → pt_ok (cv_p hb) (cX hb) h u) → (∀ u : Nat, (∀ a ∈ as, (u : Int) ∉ cv_l hb a) → pt_same hb h u) → ab_Sh sx_sk h → ab_Fr ra_V hb h → me_E (d + 5) 68 28 [some (.inr (.inr 78)), some (.inl zf), some (.inl ze), some (.inr (.inl zs)), none, some (.inl zb), some (.inl zh), some (.inl za), some (.inl zn)] [] h (rm_Q hb zf) := by
  have of : mi_in zf := ⟨by omega, by omega⟩
  intro m
  induction m with
  | zero =>
    intro as ze zb zh za zn zs h hN n0 hal eas ob oa ev es eh h0 p1 p2 hS hF
    have e01 := sf_v_01 (cX hb) (as.map (fun a => (cv_l hb a).map (cv_p hb)))
    rw [← ev] at e01
    have h1000 := sf_h_1000 (cX hb) (as.map (fun a => (cv_l hb a).map (cv_p hb)))
    rw [← eh] at h1000
    have oe : mi_in ze := ⟨by omega, by omega⟩
    have oh : mi_in zh := ⟨by omega, by omega⟩
    have cn : cv_n hb zf.toNat ≤ 6 := by unfold cv_n; omega
    have on : mi_in zn := ⟨by omega, by omega⟩
    have e64 : mi_a h 64 zf.toNat = mi_a hb 64 zf.toNat := me_a (k := 64) hF hSb rfl rfl
    have eas : as = cv_as hb (cv_n hb zf.toNat) (mi_a hb 63 zf.toNat) := by rw [← eas]; exact (List.append_nil as).symm
    refine mt_rmB hS of oe ob oh oa on ?_ ?_ ?_ ?_ ?_ ?_ ?_ ?_ ?_
    · intro c1; exfalso; omega
    · intro c1; exfalso; omega
    · intro c1; exfalso; omega
    · intro c1 c2; exfalso; omega
    · intro c1 c2; exfalso; omega
    · intro c1 c2; exfalso; omega
    · intro c1 c2 c3
      refine ⟨by omega, fun h1 g1 g2 => ?_⟩
      have e0 := me_nil g2
      subst e0
      exact rm_exit hSb f0 f1 hS hF eas ev es eh p1 p2 oe ob oh oa on
    · intro c1 c2 c3 c4
      refine ⟨by omega, fun h1 g1 g2 => ?_⟩
      have e0 := me_nil g2
      subst e0
      exact rm_exit hSb f0 f1 hS hF eas ev es eh p1 p2 oe ob oh oa on
    · intro c1 c2 c3 c4
      exfalso
      rw [e64] at c3
      unfold cv_n at hN
      omega
  | succ m ih =>
    intro as ze zb zh za zn zs h hN n0 hal eas ob oa ev es eh h0 p1 p2 hS hF
    obtain ⟨⟨a0, a1⟩, hp, hal'⟩ := hal
    have e01 := sf_v_01 (cX hb) (as.map (fun a => (cv_l hb a).map (cv_p hb)))
    rw [← ev] at e01
    have h1000 := sf_h_1000 (cX hb) (as.map (fun a => (cv_l hb a).map (cv_p hb)))
    rw [← eh] at h1000
    have oe : mi_in ze := ⟨by omega, by omega⟩
    have oh : mi_in zh := ⟨by omega, by omega⟩
    have cn : cv_n hb zf.toNat ≤ 6 := by unfold cv_n; omega
    have on : mi_in zn := ⟨by omega, by omega⟩
    have e64 : mi_a h 64 zf.toNat = mi_a hb 64 zf.toNat := me_a (k := 64) hF hSb rfl rfl
    have lt : zn < mi_a hb 64 zf.toNat := by unfold cv_n at hN; omega
    have eas' : (as ++ [za]) ++ cv_as hb m (mi_a hb 66 za.toNat) = cv_as hb (cv_n hb zf.toNat) (mi_a hb 63 zf.toNat) := by
      rw [← eas, List.append_assoc]
      all_goals rfl
    refine mt_rmB hS of oe ob oh oa on ?_ ?_ ?_ ?_ ?_ ?_ ?_ ?_ ?_
    · intro c1; exfalso; omega
    · intro c1; exfalso; omega
    · intro c1; exfalso; omega
    · intro c1 c2; exfalso; omega
    · intro c1 c2; exfalso; omega
    · intro c1 c2; exfalso; omega
    · intro c1 c2 c3
      exfalso
      rw [e64] at c3
      omega
    · intro c1 c2 c3 c4; exfalso; omega
    · intro c1 c2 c3 c4
      refine ⟨by omega, fun h1 g1 g2 => ?_⟩
      have e0 := me_nil g2
      subst e0
      refine ⟨_, me_refreshAlternative (d := d) hSb hU h01 hH a0 a1 hp hS hF, fun w h2 oww hq => ?_⟩
      obtain ⟨rfl, s1, s2, s3, s4, s5, s6, s7⟩ := hq
      rw [if_pos (by decide)] at s3 s4
      have el : cv_row hb 60 (mi_a hb 65 za.toNat) = cv_l hb za := rfl
      rw [el] at s3 s4 s5 s6 s7
      have z0 : (0 : Int64) ||| sa_s (cX hb) ((cv_l hb za).map (cv_p hb)) = sa_s (cX hb) ((cv_l hb za).map (cv_p hb)) := tb_ext (fun b => by rw [tb_or, tb_0, Bool.false_or])
      rw [z0] at s4
      have sh0 := sa_h_0 (cX hb) ((cv_l hb za).map (cv_p hb))
      have s5 : mi_a h2 87 za.toNat = min 1000 (sa_h (cX hb) ((cv_l hb za).map (cv_p hb))) := by omega
      have a01 := sa_v_01 (cX hb) ((cv_l hb za).map (cv_p hb))
      obtain ⟨A1, A2, A3⟩ := sf_app (cX hb) (as.map (fun a => (cv_l hb a).map (cv_p hb))) [(cv_l hb za).map (cv_p hb)]
      have em : (as ++ [za]).map (fun a => (cv_l hb a).map (cv_p hb)) = as.map (fun a => (cv_l hb a).map (cv_p hb)) ++ [(cv_l hb za).map (cv_p hb)] := by rw [List.map_append]; rfl
      have e66 : mi_a h2 66 za.toNat = mi_a hb 66 za.toNat := me_a (k := 66) s2 hSb rfl rfl
      have nx : ∀ zm, zm = min zh (mi_a h2 87 za.toNat) → me_E (d + 5) 68 28 [some (.inr (.inr 78)), some (.inl zf), some (.inl ((Int32.ofInt ze ||| Int32.ofInt (mi_a h2 84 (Int.toNat za))).toInt)), some (.inr (.inl (zs ||| mx_b h2 85 (Int.toNat za)))), none, some (.inl ((Int32.ofInt zb ||| Int32.ofInt (mi_a h2 86 (Int.toNat za))).toInt)), some (.inl zm), some (.inl (mi_a h2 66 (Int.toNat za))), some (.inl (zn + 1))] [] h2 (rm_Q hb zf) := by
        intro zm ezm
        rw [e66]
        refine ih (as ++ [za]) _ _ zm _ (zn + 1) _ h2 (by omega) (by omega) hal' eas' (mi_inT _) (mi_inT _) ?_ ?_ ?_ (by omega) (fun u hu => ?_) (fun u hu => ?_) s1 s2
        · rw [em, A1, s3, or_01 e01 a01, ← ev]
          by_cases c : ze ≠ 0
          · rw [if_pos c, if_pos (Or.inl c)]
          · rw [if_neg c]
            rw [sf_v_c, sf_v_n]
            by_cases c2 : sa_v (cX hb) ((cv_l hb za).map (cv_p hb)) ≠ 0
            · rw [if_pos c2, if_pos (Or.inr c2)]
            · rw [if_neg c2, if_neg (fun q => q.elim c c2)]
        · rw [em, A2, s4, ← es]
          congr 1
          exact (or_0r _).symm
        · rw [em, A3, ← eh, ezm, s5]
          rw [sf_h_c, sf_h_n]
          omega
        · obtain ⟨a, ha, hu⟩ := hu
          by_cases cm : (u : Int) ∈ cv_l hb za
          · exact s6 u cm
          · rcases List.mem_append.mp ha with ha | ha
            · obtain ⟨x1, x2⟩ := s7 u cm
              obtain ⟨y1, y2⟩ := p1 u ⟨a, ha, hu⟩
              exact ⟨x1.trans y1, x2.trans y2⟩
            · rw [List.mem_singleton.mp ha] at hu
              exact absurd hu cm
        · obtain ⟨x1, x2⟩ := s7 u (hu za (List.mem_append.mpr (Or.inr (List.mem_singleton.mpr rfl))))
          obtain ⟨y1, y2⟩ := p2 u (fun a ha => hu a (List.mem_append.mpr (Or.inl ha)))
          exact ⟨x1.trans y1, x2.trans y2⟩
      refine mt_rmC s1 of oe ob oh oa on ?_ ?_ ?_ ?_ ?_ ?_
      · intro k1; exfalso; omega
      · intro k1; exfalso; omega
      · intro k1 k2; exfalso; omega
      · intro k1 k2; exfalso; omega
      · intro k1 k2 k3
        refine ⟨by omega, fun h3 g1 g2 => ?_⟩
        have e0 := me_nil g2
        subst e0
        exact nx _ (by omega)
      · intro k1 k2 k3
        refine ⟨by omega, fun h3 g1 g2 => ?_⟩
        have e0 := me_nil g2
        subst e0
        exact nx _ (by omega)
theorem me_refreshForm (hSb : ab_Sh sx_sk hb) (hU : cv_u hb U) (h01 : sp_01 70 (cX hb)) (hH : ∀ F : Nat, F < 70 → mi_a hb 82 F ≤ 1000) (f0 : 0 ≤ zf) (f1 : zf < 70) (hal : cv_al hb U (cv_n hb zf.toNat) (mi_a hb 63 zf.toNat)) : me_E (d + 5) 68 0 [some (.inr (.inr 78)), some (.inl zf), none, none, none, none, none, none, none] [] hb (rm_Q hb zf) := by
  refine mt_rmA hSb ⟨by omega, by omega⟩ ?_ ?_ ?_
  · intro c1; exfalso; omega
  · intro c1 c2; exfalso; omega
  · intro c1 c2
    refine ⟨by omega, fun h1 g1 g2 => ?_⟩
    have e0 := me_nil g2
    subst e0
    exact rm_loop hSb hU h01 hH f0 f1 _ [] 0 0 1000 _ 0 _ h1 (by omega) (by decide) hal rfl fm_in0 (mi_inT _) rfl rfl rfl (by decide) (fun u hu => by obtain ⟨a, ha, -⟩ := hu; cases ha) (fun u _ => ⟨rfl, rfl⟩) hSb ab_Fr.refl
end RMF
/-! the class's Sets: spreadStarts -/
/-- the rows are the same -/
def cv_eq (h h' : sm_H) : Prop := mi_a h' 63 = mi_a h 63 ∧ mi_a h' 64 = mi_a h 64 ∧ mi_a h' 65 = mi_a h 65 ∧ mi_a h' 66 = mi_a h 66 ∧ mi_a h' 68 = mi_a h 68 ∧ mi_a h' 69 = mi_a h 69 ∧ mi_a h' 71 = mi_a h 71 ∧ mi_a h' 72 = mi_a h 72
section CVE
variable {h h' : sm_H} {U : Int}
theorem cv_eq_fr {wr : List (Nat × Nat)} (hF : ab_Fr wr h h') (hS : ab_Sh sx_sk h) (hw : [63, 64, 65, 66, 68, 69, 71, 72].any (fun r => ab_in wr (r * 128)) = false) : cv_eq h h' := by
  have a : ∀ r, r ∈ [63, 64, 65, 66, 68, 69, 71, 72] → mi_a h' r = mi_a h r := fun r hr => funext fun i => by
    have n := List.any_eq_false.mp hw r hr
    have all : [63, 64, 65, 66, 68, 69, 71, 72].all (fun r => mx_isA sx_sk r || mx_isB sx_sk r) = true := by decide
    exact me_a hF hS (List.all_eq_true.mp all r hr) (by simpa using n)
  exact ⟨a 63 (by decide), a 64 (by decide), a 65 (by decide), a 66 (by decide), a 68 (by decide), a 69 (by decide), a 71 (by decide), a 72 (by decide)⟩
theorem cv_eq.p (e : cv_eq h h') : cv_p h' = cv_p h := by
  funext u
  unfold cv_p gf_v
  rw [e.2.2.2.2.1, e.2.2.2.2.2.1, e.2.2.2.2.2.2.2]
theorem cv_eq.row (e : cv_eq h h') : ∀ (n : Nat) (u : Int), cv_row h' n u = cv_row h n u := by
  intro n
  induction n with
  | zero => intro u; rfl
  | succ n ih => intro u; unfold cv_row; rw [ih, e.2.2.2.2.2.2.1]
theorem cv_eq.as (e : cv_eq h h') : ∀ (n : Nat) (a : Int), cv_as h' n a = cv_as h n a := by
  intro n
  induction n with
  | zero => intro u; rfl
  | succ n ih => intro u; unfold cv_as; rw [ih, e.2.2.2.1]
theorem cv_eq.l (e : cv_eq h h') : cv_l h' = cv_l h := by
  funext a
  unfold cv_l
  rw [e.row, e.2.2.1]
theorem cv_eq.n (e : cv_eq h h') : cv_n h' = cv_n h := by
  funext F
  unfold cv_n
  rw [e.2.1]
theorem cv_eq.g (e : cv_eq h h') : GC h' = GC h := by
  funext F
  unfold GC
  rw [e.as, e.l, e.n, e.p, e.1]
theorem cv_eq.u (e : cv_eq h h') (hU : cv_u h U) : cv_u h' U := by
  unfold cv_u gf_v at *
  rw [e.2.2.2.2.1, e.2.2.2.2.2.1, e.2.2.2.2.2.2.1]
  exact hU
theorem cv_eq.al (e : cv_eq h h') : ∀ (n : Nat) (a : Int), cv_al h U n a → cv_al h' U n a := by
  intro n
  induction n with
  | zero => intro a _; trivial
  | succ n ih =>
    intro a ha
    obtain ⟨k1, k2, k3⟩ := ha
    unfold cv_al
    rw [e.2.2.1, e.2.2.2.1]
    exact ⟨k1, k2, ih _ k3⟩
theorem cv_row_in (hU : cv_u h U) : ∀ (n : Nat) (p : Int), (p = -1 ∨ (0 ≤ p ∧ p < U)) → ∀ u ∈ cv_row h n p, 0 ≤ u ∧ u < U := by
  intro n
  induction n with
  | zero => intro p _ u hu; cases hu
  | succ n ih =>
    intro p hp u hu
    unfold cv_row at hu
    by_cases c : p = -1
    · rw [if_pos c] at hu; cases hu
    · rw [if_neg c] at hu
      have p01 := hp.resolve_left c
      rcases List.mem_cons.mp hu with rfl | hu
      · exact p01
      · have w := (hU.2 p p01.1 p01.2).1
        exact ih _ (by omega) u hu
theorem cv_as_in : ∀ (n : Nat) (a : Int), cv_al h U n a → ∀ x ∈ cv_as h n a, (0 ≤ x ∧ x < 66) ∧ (mi_a h 65 x.toNat = -1 ∨ (0 ≤ mi_a h 65 x.toNat ∧ mi_a h 65 x.toNat < U)) := by
  intro n
  induction n with
  | zero => intro a _ x hx; cases hx
  | succ n ih =>
    intro a ha x hx
    obtain ⟨k1, k2, k3⟩ := ha
    rcases List.mem_cons.mp hx with rfl | hx
    · exact ⟨k1, k2⟩
    · exact ih _ k3 x hx
/-- all forms are fine -/
def cv_F (h : sm_H) (U : Int) : Prop := cv_u h U ∧ ∀ F : Nat, F < 70 → cv_al h U (cv_n h F) (mi_a h 63 F)
/-- part u is of form F -/
def cv_of (h : sm_H) (F : Nat) (u : Int) : Prop := ∃ a ∈ cv_as h (cv_n h F) (mi_a h 63 F), u ∈ cv_l h a
theorem cv_eq.F (e : cv_eq h h') (hF : cv_F h U) : cv_F h' U := ⟨e.u hF.1, fun F hF' => by rw [e.n, e.1]; exact e.al _ _ (hF.2 F hF')⟩
theorem cv_eq.of (e : cv_eq h h') {F : Nat} {u : Int} : cv_of h' F u ↔ cv_of h F u := by
  unfold cv_of
  rw [e.as, e.l, e.n, e.1]
theorem cv_of_in (hF : cv_F h U) {F : Nat} (hF' : F < 70) {u : Int} (hu : cv_of h F u) : 0 ≤ u ∧ u < U := by
  obtain ⟨a, ha, hu⟩ := hu
  exact cv_row_in hF.1 _ _ (cv_as_in _ _ (hF.2 F hF') a ha).2 u hu
theorem cv_p1 (hU : cv_u h U) {u : Int} (u0 : 0 ≤ u) (u1 : u < U) : (cv_p h u).1 < (70 : Nat) ∧ 0 ≤ (cv_p h u).2.1 := by
  obtain ⟨-, w2, -⟩ := hU.2 u u0 u1
  refine ⟨by show gf_v h u < 70; omega, ?_⟩
  show 0 ≤ (if mi_a h 68 u.toNat = 9 then (1 : Int) else 0)
  split <;> decide
theorem cv_OK (hF : cv_F h U) : sg_OK 70 (GC h) := fun F hF' us hus => by
  obtain ⟨a, ha, rfl⟩ := List.mem_map.mp hus
  have k : ∀ p ∈ (cv_l h a).map (cv_p h), p.1 < (70 : Nat) ∧ 0 ≤ p.2.1 := fun p hp => by
    obtain ⟨u, hu, rfl⟩ := List.mem_map.mp hp
    obtain ⟨u0, u1⟩ := cv_of_in hF hF' ⟨a, ha, hu⟩
    exact cv_p1 hF.1 u0 u1
  exact ⟨fun p hp => (k p hp).1, fun p hp => (k p hp).2⟩
end CVE
theorem su_eq {n : Nat} {G : sg_G} {X Y : sp_X} {F : Nat} (hG : sg_OK n G) (hF : F < n) (h : sp_eq n X Y) : sp_eq n (su G F X) (su G F Y) := fun i hi => by
  obtain ⟨a1, a2, a3⟩ := h.fs (hG F hF)
  obtain ⟨b1, b2, b3⟩ := h i hi
  show (if i = F then sf_v X (G F) else X.1 i) = (if i = F then sf_v Y (G F) else Y.1 i) ∧ (if i = F then sf_s X (G F) else X.2.1 i) = (if i = F then sf_s Y (G F) else Y.2.1 i) ∧ (if i = F then sf_h X (G F) else X.2.2 i) = (if i = F then sf_h Y (G F) else Y.2.2 i)
  rw [a1, a2, a3, b1, b2, b3]
  exact ⟨rfl, rfl, rfl⟩
theorem sps_eq {n : Nat} {G : sg_G} (hG : sg_OK n G) : ∀ (m : Nat) (X Y : sp_X), m ≤ n → sp_eq n X Y → sp_eq n (sps G m X) (sps G m Y) := by
  intro m
  induction m with
  | zero => intro X Y _ h; exact h
  | succ m ih => intro X Y hm h; exact ih _ _ (by omega) (su_eq hG (by omega) h)
theorem pt_ok_eq {X Y : sp_X} {P : Int → sp_P} {h : sm_H} {u n : Nat} (e : sp_eq n X Y) (hp : (P u).1 < n) (k : pt_ok P X h u) : pt_ok P Y h u := by
  have e1 : sp_v X (P u) = sp_v Y (P u) := by
    unfold sp_v
    by_cases c : 0 ≤ (P u).1
    · rw [if_pos c, if_pos c]; exact (e _ (by omega)).1
    · rw [if_neg c, if_neg c]
  have e2 : sp_s X (P u) = sp_s Y (P u) := by
    unfold sp_s
    by_cases c : 0 ≤ (P u).1
    · rw [if_pos c, if_pos c]; exact (e _ (by omega)).2.1
    · rw [if_neg c, if_neg c]
  exact ⟨k.1.trans e1, k.2.trans e2⟩
/-- a part has what X, or what came between X and Y, has -/
def pt_bt (hb : sm_H) (X Y : sp_X) (h : sm_H) (u : Nat) : Prop := ∃ Z, sp_le 70 X Z ∧ sp_le 70 Z Y ∧ sp_01 70 Z ∧ pt_ok (cv_p hb) Z h u
def ss_Q (hb : sm_H) (w : Option mi_V) (h' : sm_H) : Prop := w = none ∧ ab_Sh sx_sk h' ∧ ab_Fr rm_W hb h' ∧ ∃ j, sp_eq 70 (cX h') (sps_k (GC hb) 70 j) ∧ sp_fix 70 (GC hb) (sps_k (GC hb) 70 j) ∧ ∀ F : Nat, F < 70 → ∀ u : Nat, cv_of hb F u → pt_ok (cv_p hb) (sps_k (GC hb) 70 j) h' u
section SPS
variable {d : Nat} {hb : sm_H} {U : Int}
/-- before form zf of turn k + 1 -/
def ss_I (hb : sm_H) (k : Nat) (m : Nat) (h : sm_H) : Prop := ab_Sh sx_sk h ∧ ab_Fr rm_W hb h ∧ sp_eq 70 (sps (GC hb) m (cX h)) (sps_k (GC hb) 70 (k + 1)) ∧ sp_le 70 (sps_k (GC hb) 70 k) (cX h) ∧ sp_01 70 (cX h) ∧ sp_up 70 (GC hb) (cX h) ∧ (∀ F : Nat, F < 70 → mi_a h 82 F ≤ 1000) ∧ (mi_f h 9999 = 0 → sp_eq 70 (cX h) (sps_k (GC hb) 70 k)) ∧ ∀ F : Nat, m ≤ F → F < 70 → ∀ u : Nat, cv_of hb F u → pt_bt hb (sps_k (GC hb) 70 k) (sps_k (GC hb) 70 (k + 1)) h u
theorem ss_step {k m : Nat} {h : sm_H} (hSb : ab_Sh sx_sk hb) (hF : cv_F hb U) (hm : m < 70) (hI : ss_I hb k (m + 1) h) : me_E (d + 5) 68 0 [some (.inr (.inr 78)), some (.inl (m : Int)), none, none, none, none, none, none, none] [] h (fun w h' => w = none ∧ ss_I hb k m h') := by
  obtain ⟨i1, i2, i3, i4, i5, i6, i7, i8, i9⟩ := hI
  have e : cv_eq hb h := cv_eq_fr i2 hSb rfl
  have hF' := e.F hF
  have hG := cv_OK hF
  have em : ((m : Int)).toNat = m := rfl
  refine (me_refreshForm (d := d) (zf := (m : Int)) i1 hF'.1 i5 i7 (by omega) (by omega) (hF'.2 m hm)).imp (fun w h' hq => ?_)
  obtain ⟨r1, r2, r3, r4, r5, r6, r7⟩ := hq
  rw [em, e.g] at r4
  have F' : ab_Fr rm_W hb h' := i2.trans r3
  have e1 : sps (GC hb) m (cX h') = sps (GC hb) (m + 1) (cX h) := by rw [r4]; rfl
  have lN : sp_le 70 (cX h) (sps_k (GC hb) 70 (k + 1)) := sp_le_tr (sps_up hG (m + 1) _ (by omega) i6).1 i3.le
  refine ⟨r1, r2, F', by rw [e1]; exact i3, sp_le_tr i4 (by rw [r4]; exact su_le i6), by rw [r4]; exact su_01 i5, by rw [r4]; exact su_up hG (by omega) i6, fun F hF'' => ?_, fun q => ?_, fun F f0 f1 u hu => ?_⟩
  · have x : mi_a h' 82 F = if F = m then sf_h (cX h) (GC hb m) else mi_a h 82 F := congrFun (congrArg (fun X : sp_X => X.2.2) r4) F
    rw [x]
    split
    · exact sf_h_1000 _ _
    · exact i7 F hF''
  · obtain ⟨q1, q2⟩ := r5 q
    rw [q2]
    exact i8 q1
  · by_cases c : cv_of hb m u
    · have k1 := r6 u (e.of.mpr c)
      rw [e.p] at k1
      exact ⟨cX h, i4, lN, i5, k1⟩
    · have nF : F ≠ m := fun q => c (by rw [← q]; exact hu)
      obtain ⟨Z, z1, z2, z3, z4⟩ := i9 F (by omega) f1 u hu
      obtain ⟨x1, x2⟩ := r7 u (fun a ha q => c (e.of.mp ⟨a, ha, q⟩))
      exact ⟨Z, z1, z2, z3, x1.trans z4.1, x2.trans z4.2⟩
theorem ss_pass {k : Nat} {zn : Int} {Q : Option mi_V → sm_H → Prop} (hSb : ab_Sh sx_sk hb) (hF : cv_F hb U) (on : mi_in zn) (on1 : mi_in (zn + 1)) (K : ∀ h, ss_I hb k 0 h → me_E (d + 6) 67 7 [some (.inr (.inr 78)), some (.inl (zn + 1)), some (.inl (-1))] [] h Q) : ∀ (m : Nat) (h : sm_H), m ≤ 70 → ss_I hb k m h → me_E (d + 6) 67 28 [some (.inr (.inr 78)), some (.inl zn), some (.inl ((m : Int) - 1))] [] h Q := by
  intro m
  induction m with
  | zero =>
    intro h _ hI
    refine mt_spC hI.1 on ⟨by decide, by decide⟩ ?_ (fun q => absurd q (by decide))
    intro c1
    refine ⟨on1, fun h1 g1 g2 => ?_⟩
    have e0 := me_nil g2
    subst e0
    exact K h1 hI
  | succ m ih =>
    intro h hm hI
    have ez : ((m + 1 : Nat) : Int) - 1 = (m : Int) := by omega
    rw [ez]
    refine mt_spC hI.1 on ⟨by omega, by omega⟩ (fun q => by exfalso; omega) ?_
    intro c1 h1 g1 g2
    have e0 := me_nil g2
    subst e0
    refine ⟨_, ss_step (d := d) hSb hF (by omega) hI, fun w h2 oww hq => ?_⟩
    obtain ⟨rfl, hI2⟩ := hq
    refine mt_spD hI2.1 on ⟨by omega, by omega⟩ ⟨by omega, fun h3 g1 g2 => ?_⟩
    have e0 := me_nil g2
    subst e0
    exact ih h3 (by omega) hI2
/-- between turns -/
def ss_H (hb : sm_H) (k : Nat) (h : sm_H) : Prop := ab_Sh sx_sk h ∧ ab_Fr rm_W hb h ∧ sp_eq 70 (cX h) (sps_k (GC hb) 70 k) ∧ (∀ F : Nat, F < 70 → mi_a h 82 F ≤ 1000) ∧ (k = 0 → mi_f h 9999 ≠ 0) ∧ ∀ j, k = j + 1 → (mi_f h 9999 = 0 → sp_eq 70 (sps_k (GC hb) 70 (j + 1)) (sps_k (GC hb) 70 j)) ∧ ∀ F : Nat, F < 70 → ∀ u : Nat, cv_of hb F u → pt_bt hb (sps_k (GC hb) 70 j) (sps_k (GC hb) 70 (j + 1)) h u
theorem ss_end {k : Nat} {h : sm_H} (hF : cv_F hb U) (hH : ss_H hb k h) (hx : mi_f h 9999 = 0 ∨ 100000 ≤ k) : ss_Q hb none h := by
  obtain ⟨i1, i2, i3, i4, i5, i6⟩ := hH
  have hG := cv_OK hF
  cases k with
  | zero => 
    exfalso
    rcases hx with q | q
    · exact i5 rfl q
    · omega
  | succ j =>
    obtain ⟨j1, j2⟩ := i6 j rfl
    have E : sp_eq 70 (sps_k (GC hb) 70 (j + 1)) (sps_k (GC hb) 70 j) := by
      rcases hx with q | q
      · exact j1 q
      · exact sps_k_stop hG (by omega)
    refine ⟨rfl, i1, i2, j, i3.trans E, fun F hF' => sps_fix hG 70 _ (Nat.le_refl _) (sps_k_01 j) (sps_k_up hG j) E F hF', fun F hF' u hu => ?_⟩
    obtain ⟨Z, z1, z2, z3, z4⟩ := j2 F hF' u hu
    obtain ⟨u0, u1⟩ := cv_of_in hF hF' hu
    exact pt_ok_eq (sp_anti z3 (sps_k_01 j) (sp_le_tr z2 E.le) z1) (cv_p1 hF.1 u0 u1).1 z4
theorem ss_loop (hSb : ab_Sh sx_sk hb) (hF : cv_F hb U) : ∀ (N k : Nat) (q2 : Option mi_V) (h : sm_H), 100000 - k < N → k ≤ 100000 → (∀ v, q2 = some v → mi_ok v) → ss_H hb k h → me_E (d + 6) 67 7 [some (.inr (.inr 78)), some (.inl (k : Int)), q2] [] h (ss_Q hb) := by
  have hG := cv_OK hF
  intro N
  induction N with
  | zero => intro k q2 h hN; exfalso; omega
  | succ N ih =>
    intro k q2 h hN hk oq hH
    refine mt_spB hH.1 ⟨by omega, by omega⟩ oq ?_ ?_ ?_
    · intro b c1 h1 g1 g2
      have e0 := me_nil g2
      subst e0
      exact ss_end hF hH (Or.inl c1)
    · intro b c1 c2 h1 g1 g2
      have e0 := me_nil g2
      subst e0
      exact ss_end hF hH (Or.inr (by omega))
    · intro b c1 c2 h1 s1 s2 s3
      obtain ⟨i1, i2, i3, i4, i5, i6⟩ := hH
      have eX : cX h1 = cX h := cX_fr s3 i1 rfl
      have I1 : ss_I hb k 70 h1 := by
        refine ⟨s1, i2.trans (s3.wide (fun c hc => ab_swr_ok (by decide) hc)), ?_, ?_, ?_, ?_, fun F hF' => by rw [me_a (k := 82) s3 i1 rfl rfl]; exact i4 F hF', fun _ => by rw [eX]; exact i3, fun F f0 f1 => by omega⟩
        · rw [eX]; exact sps_eq hG 70 _ _ (Nat.le_refl _) i3
        · rw [eX]; exact i3.symm.le
        · rw [eX]
          intro F hF'
          rw [(i3 F hF').1]
          exact sps_k_01 k F hF'
        · rw [eX]
          intro F hF'
          obtain ⟨a1, a2, a3⟩ := i3.fs (hG F hF')
          obtain ⟨b1, b2, b3⟩ := i3 F hF'
          rw [a1, a2, a3, b1, b2, b3]
          exact sps_k_up hG k F hF'
      refine ss_pass (k := k) hSb hF ⟨by omega, by omega⟩ ⟨by omega, by omega⟩ (fun h2 hI => ?_) 70 h1 (Nat.le_refl _) I1
      obtain ⟨j1, j2, j3, j4, j5, j6, j7, j8, j9⟩ := hI
      have ek : (k : Int) + 1 = ((k + 1 : Nat) : Int) := by omega
      rw [ek]
      exact ih (k + 1) _ h2 (by omega) (by omega) (me_oi ⟨by decide, by decide⟩) ⟨j1, j2, j3, j7, fun q => by omega, fun j ej => by
        have : j = k := by omega
        subst this
        exact ⟨fun q => j3.symm.trans (j8 q), fun F hF' u hu => j9 F (Nat.zero_le _) hF' u hu⟩⟩
theorem me_spreadStarts {h : sm_H} (hSb : ab_Sh sx_sk hb) (hF : cv_F hb U) (hS : ab_Sh sx_sk h) (hFr : ab_Fr rm_W hb h) (h0 : sp_eq 70 (cX h) sp_bot) : me_E (d + 6) 67 0 [some (.inr (.inr 78)), none, none] [] h (ss_Q hb) := by
  refine mt_spA hS (fun h1 s1 s2 s3 => ?_)
  have eX : cX h1 = cX h := cX_fr s3 hS rfl
  refine ss_loop hSb hF 100001 0 none h1 (by decide) (by decide) me_on ⟨s1, hFr.trans (s3.wide (fun c hc => ab_swr_ok (by decide) hc)), by rw [eX]; exact h0, fun F hF' => ?_, fun _ => by omega, fun j ej => by omega⟩
  have : mi_a h1 82 F = 1000 := by
    have := (h0 F hF').2.2
    rw [← eX] at this
    exact this
  omega
end SPS
