/-! segments: letters -/
set_option maxRecDepth 20000 in
theorem mp_lxA_0 (h : sm_H) (d : Nat) (zb : Int) : mi_path [(181, (4, 1, sb_181))] sx_sk h 2 [] (d + 1, 181, 0, [some (.inr (.inr 109)), some (.inl (zb)), none, none], [], [], []) = some ((d + 1, 181, 2, [some (.inr (.inr 109)), some (.inl (zb)), some (.inl (zb)), none], [], [], []), []) := rfl
theorem mi_tab_lxA_0 : ∀ e ∈ ([(181, (4, 1, sb_181))] : mi_T), sc_P e.1 = some e.2 := mi_tb mi_P181 (mi_tb_e)
set_option maxRecDepth 20000 in
theorem ms_lxA_0 {h : sm_H} {d : Nat} {Q : Option mi_V → sm_H → Prop} {zb : Int} (hS : ab_Sh sx_sk h) (ok_zb : mi_in zb) (kon : ∀ h1, me_W [] h h1 → me_E (d + 1) 181 2 [some (.inr (.inr 109)), some (.inl (zb)), some (.inl (zb)), none] [] h1 Q) : me_E (d + 1) 181 0 [some (.inr (.inr 109)), some (.inl (zb)), none, none] [] h Q := me_seg (mp_lxA_0 h d zb) (mi_tab_lxA_0) hS (mi_okL_c (trivial) (mi_okL_c (ok_zb) (mi_okL_n (mi_okL_n (mi_okL_e))))) (mi_okS_e) (mi_al_e) (fun h1 W _ hst => kon h1 W)
set_option maxRecDepth 20000 in
theorem mt_lxA {h : sm_H} {d : Nat} {Q : Option mi_V → sm_H → Prop} {zb : Int} (hS : ab_Sh sx_sk h) (ok_zb : mi_in zb) (k0 : (∀ h1, ab_Sh sx_sk h1 → ab_Fr [] h h1 → me_E (d + 1) 181 2 [some (.inr (.inr 109)), some (.inl (zb)), some (.inl (zb)), none] [] h1 Q)) : me_E (d + 1) 181 0 [some (.inr (.inr 109)), some (.inl (zb)), none, none] [] h Q := ms_lxA_0 hS ok_zb (fun h1 W => (k0) h1 W.1 (W.2.2.2.2.2 _ rfl))
set_option maxRecDepth 20000 in
theorem mp_lxB_0 (h : sm_H) (d : Nat) (zb zk : Int) : mi_path [(181, (4, 1, sb_181)), (180, (1, 4, sb_180))] sx_sk h 4 [1] (d + 1, 181, 2, [some (.inr (.inr 109)), some (.inl (zb)), some (.inl (zk)), none], [], [], []) = some ((d + 1, 181, 28, [some (.inr (.inr 109)), some (.inl (zb)), some (.inl (zk)), none], [], [], []), [(mi_f h 13953) ≤ zk]) := rfl
theorem mi_tab_lxB_0 : ∀ e ∈ ([(181, (4, 1, sb_181)), (180, (1, 4, sb_180))] : mi_T), sc_P e.1 = some e.2 := mi_tb mi_P181 (mi_tb mi_P180 (mi_tb_e))
set_option maxRecDepth 20000 in
theorem ms_lxB_0 {h : sm_H} {d : Nat} {Q : Option mi_V → sm_H → Prop} {zb zk : Int} (hS : ab_Sh sx_sk h) (ok_zb : mi_in zb) (ok_zk : mi_in zk) (ho : ((mi_f h 13953) ≤ zk)) (kon : ∀ h1, me_W [] h h1 → me_E (d + 1) 181 28 [some (.inr (.inr 109)), some (.inl (zb)), some (.inl (zk)), none] [] h1 Q) : me_E (d + 1) 181 2 [some (.inr (.inr 109)), some (.inl (zb)), some (.inl (zk)), none] [] h Q := me_seg (mp_lxB_0 h d zb zk) (mi_tab_lxB_0) hS (mi_okL_c (trivial) (mi_okL_c (ok_zb) (mi_okL_c (ok_zk) (mi_okL_n (mi_okL_e))))) (mi_okS_e) (mi_al (ho) (mi_al_e)) (fun h1 W _ hst => kon h1 W)
set_option maxRecDepth 20000 in
theorem mp_lxB_1 (h : sm_H) (d : Nat) (zb zk : Int) : mi_path [(181, (4, 1, sb_181)), (180, (1, 4, sb_180))] sx_sk h 15 [0, 1, 1] (d + 1, 181, 2, [some (.inr (.inr 109)), some (.inl (zb)), some (.inl (zk)), none], [], [], []) = some ((d + 1, 181, 28, [some (.inr (.inr 109)), some (.inl (zb)), some (.inl (zk)), none], [], [], []), [zk < (mi_f h 13953), 0 ≤ zk ∧ zk < 240, (mi_a h 110 (Int.toNat zk)) < ((97 : Int)), ((0 : Int)) = 0 ∨ ((0 : Int)) = 1, ((0 : Int)) = ((0 : Int))]) := rfl
theorem mi_tab_lxB_1 : ∀ e ∈ ([(181, (4, 1, sb_181)), (180, (1, 4, sb_180))] : mi_T), sc_P e.1 = some e.2 := mi_tb mi_P181 (mi_tb mi_P180 (mi_tb_e))
set_option maxRecDepth 20000 in
theorem ms_lxB_1 {h : sm_H} {d : Nat} {Q : Option mi_V → sm_H → Prop} {zb zk : Int} (hS : ab_Sh sx_sk h) (ok_zb : mi_in zb) (ok_zk : mi_in zk) (ho : (zk < (mi_f h 13953)) ∧ (0 ≤ zk ∧ zk < 240) ∧ ((mi_a h 110 (Int.toNat zk)) < ((97 : Int))) ∧ (((0 : Int)) = 0 ∨ ((0 : Int)) = 1) ∧ (((0 : Int)) = ((0 : Int)))) (kon : ∀ h1, me_W [] h h1 → me_E (d + 1) 181 28 [some (.inr (.inr 109)), some (.inl (zb)), some (.inl (zk)), none] [] h1 Q) : me_E (d + 1) 181 2 [some (.inr (.inr 109)), some (.inl (zb)), some (.inl (zk)), none] [] h Q := me_seg (mp_lxB_1 h d zb zk) (mi_tab_lxB_1) hS (mi_okL_c (trivial) (mi_okL_c (ok_zb) (mi_okL_c (ok_zk) (mi_okL_n (mi_okL_e))))) (mi_okS_e) (mi_al (ho.1) (mi_al (ho.2.1) (mi_al (ho.2.2.1) (mi_al (ho.2.2.2.1) (mi_al (ho.2.2.2.2) (mi_al_e)))))) (fun h1 W _ hst => kon h1 W)
set_option maxRecDepth 20000 in
theorem mp_lxB_2 (h : sm_H) (d : Nat) (zb zk : Int) : mi_path [(181, (4, 1, sb_181)), (180, (1, 4, sb_180))] sx_sk h 18 [0, 0, 1, 1] (d + 1, 181, 2, [some (.inr (.inr 109)), some (.inl (zb)), some (.inl (zk)), none], [], [], []) = some ((d + 1, 181, 28, [some (.inr (.inr 109)), some (.inl (zb)), some (.inl (zk)), none], [], [], []), [zk < (mi_f h 13953), 0 ≤ zk ∧ zk < 240, ((97 : Int)) ≤ (mi_a h 110 (Int.toNat zk)), ((122 : Int)) < (mi_a h 110 (Int.toNat zk)), ((0 : Int)) = 0 ∨ ((0 : Int)) = 1, ((0 : Int)) = ((0 : Int))]) := rfl
theorem mi_tab_lxB_2 : ∀ e ∈ ([(181, (4, 1, sb_181)), (180, (1, 4, sb_180))] : mi_T), sc_P e.1 = some e.2 := mi_tb mi_P181 (mi_tb mi_P180 (mi_tb_e))
set_option maxRecDepth 20000 in
theorem ms_lxB_2 {h : sm_H} {d : Nat} {Q : Option mi_V → sm_H → Prop} {zb zk : Int} (hS : ab_Sh sx_sk h) (ok_zb : mi_in zb) (ok_zk : mi_in zk) (ho : (zk < (mi_f h 13953)) ∧ (0 ≤ zk ∧ zk < 240) ∧ (((97 : Int)) ≤ (mi_a h 110 (Int.toNat zk))) ∧ (((122 : Int)) < (mi_a h 110 (Int.toNat zk))) ∧ (((0 : Int)) = 0 ∨ ((0 : Int)) = 1) ∧ (((0 : Int)) = ((0 : Int)))) (kon : ∀ h1, me_W [] h h1 → me_E (d + 1) 181 28 [some (.inr (.inr 109)), some (.inl (zb)), some (.inl (zk)), none] [] h1 Q) : me_E (d + 1) 181 2 [some (.inr (.inr 109)), some (.inl (zb)), some (.inl (zk)), none] [] h Q := me_seg (mp_lxB_2 h d zb zk) (mi_tab_lxB_2) hS (mi_okL_c (trivial) (mi_okL_c (ok_zb) (mi_okL_c (ok_zk) (mi_okL_n (mi_okL_e))))) (mi_okS_e) (mi_al (ho.1) (mi_al (ho.2.1) (mi_al (ho.2.2.1) (mi_al (ho.2.2.2.1) (mi_al (ho.2.2.2.2.1) (mi_al (ho.2.2.2.2.2) (mi_al_e))))))) (fun h1 W _ hst => kon h1 W)
set_option maxRecDepth 20000 in
theorem mp_lxB_3 (h : sm_H) (d : Nat) (zb zk : Int) : mi_path [(181, (4, 1, sb_181)), (180, (1, 4, sb_180))] sx_sk h 21 [0, 0, 0, 0] (d + 1, 181, 2, [some (.inr (.inr 109)), some (.inl (zb)), some (.inl (zk)), none], [], [], []) = some ((d + 1, 181, 2, [some (.inr (.inr 109)), some (.inl (zb)), some (.inl (zk + 1)), none], [], [], []), [zk < (mi_f h 13953), 0 ≤ zk ∧ zk < 240, ((97 : Int)) ≤ (mi_a h 110 (Int.toNat zk)), (mi_a h 110 (Int.toNat zk)) ≤ ((122 : Int)), ((1 : Int)) = 0 ∨ ((1 : Int)) = 1, ((1 : Int)) ≠ ((0 : Int)), -2147483648 ≤ zk + 1 ∧ zk + 1 ≤ 2147483647]) := rfl
theorem mi_tab_lxB_3 : ∀ e ∈ ([(181, (4, 1, sb_181)), (180, (1, 4, sb_180))] : mi_T), sc_P e.1 = some e.2 := mi_tb mi_P181 (mi_tb mi_P180 (mi_tb_e))
set_option maxRecDepth 20000 in
theorem ms_lxB_3 {h : sm_H} {d : Nat} {Q : Option mi_V → sm_H → Prop} {zb zk : Int} (hS : ab_Sh sx_sk h) (ok_zb : mi_in zb) (ok_zk : mi_in zk) (ho : (zk < (mi_f h 13953)) ∧ (0 ≤ zk ∧ zk < 240) ∧ (((97 : Int)) ≤ (mi_a h 110 (Int.toNat zk))) ∧ ((mi_a h 110 (Int.toNat zk)) ≤ ((122 : Int))) ∧ (((1 : Int)) = 0 ∨ ((1 : Int)) = 1) ∧ (((1 : Int)) ≠ ((0 : Int))) ∧ (-2147483648 ≤ zk + 1 ∧ zk + 1 ≤ 2147483647)) (kon : ∀ h1, me_W [] h h1 → me_E (d + 1) 181 2 [some (.inr (.inr 109)), some (.inl (zb)), some (.inl (zk + 1)), none] [] h1 Q) : me_E (d + 1) 181 2 [some (.inr (.inr 109)), some (.inl (zb)), some (.inl (zk)), none] [] h Q := me_seg (mp_lxB_3 h d zb zk) (mi_tab_lxB_3) hS (mi_okL_c (trivial) (mi_okL_c (ok_zb) (mi_okL_c (ok_zk) (mi_okL_n (mi_okL_e))))) (mi_okS_e) (mi_al (ho.1) (mi_al (ho.2.1) (mi_al (ho.2.2.1) (mi_al (ho.2.2.2.1) (mi_al (ho.2.2.2.2.1) (mi_al (ho.2.2.2.2.2.1) (mi_al (ho.2.2.2.2.2.2) (mi_al_e)))))))) (fun h1 W _ hst => kon h1 W)
set_option maxRecDepth 20000 in
theorem mt_lxB {h : sm_H} {d : Nat} {Q : Option mi_V → sm_H → Prop} {zb zk : Int} (hS : ab_Sh sx_sk h) (ok_zb : mi_in zb) (ok_zk : mi_in zk) (k0 : (0 ≤ mi_f h 13953 ∧ mi_f h 13953 ≤ 240) → ((mi_f h 13953) ≤ zk) → (∀ h1, ab_Sh sx_sk h1 → ab_Fr [] h h1 → me_E (d + 1) 181 28 [some (.inr (.inr 109)), some (.inl (zb)), some (.inl (zk)), none] [] h1 Q)) (k1 : (0 ≤ mi_f h 13953 ∧ mi_f h 13953 ≤ 240) → (zk < (mi_f h 13953)) → ((mi_a h 110 (Int.toNat zk)) < ((97 : Int))) → ((0 ≤ zk ∧ zk < 240)) ∧ (∀ h1, ab_Sh sx_sk h1 → ab_Fr [] h h1 → me_E (d + 1) 181 28 [some (.inr (.inr 109)), some (.inl (zb)), some (.inl (zk)), none] [] h1 Q)) (k2 : (0 ≤ mi_f h 13953 ∧ mi_f h 13953 ≤ 240) → (zk < (mi_f h 13953)) → (((97 : Int)) ≤ (mi_a h 110 (Int.toNat zk))) → (((122 : Int)) < (mi_a h 110 (Int.toNat zk))) → ((0 ≤ zk ∧ zk < 240)) ∧ (∀ h1, ab_Sh sx_sk h1 → ab_Fr [] h h1 → me_E (d + 1) 181 28 [some (.inr (.inr 109)), some (.inl (zb)), some (.inl (zk)), none] [] h1 Q)) (k3 : (0 ≤ mi_f h 13953 ∧ mi_f h 13953 ≤ 240) → (zk < (mi_f h 13953)) → (((97 : Int)) ≤ (mi_a h 110 (Int.toNat zk))) → ((mi_a h 110 (Int.toNat zk)) ≤ ((122 : Int))) → ((0 ≤ zk ∧ zk < 240) ∧ (-2147483648 ≤ zk + 1 ∧ zk + 1 ≤ 2147483647)) ∧ (∀ h1, ab_Sh sx_sk h1 → ab_Fr [] h h1 → me_E (d + 1) 181 2 [some (.inr (.inr 109)), some (.inl (zb)), some (.inl (zk + 1)), none] [] h1 Q)) : me_E (d + 1) 181 2 [some (.inr (.inr 109)), some (.inl (zb)), some (.inl (zk)), none] [] h Q := Or.elim (mi_em .ge (zk) ((mi_f h 13953))) (fun c0 => ms_lxB_0 hS ok_zb ok_zk (c0) (fun h1 W => (k0 (me_fb hS rfl) c0) h1 W.1 (W.2.2.2.2.2 _ rfl))) (fun c0 => Or.elim (mi_em .lt ((mi_a h 110 (Int.toNat zk))) (((97 : Int)))) (fun c1 => ms_lxB_1 hS ok_zb ok_zk ⟨c0, (k1 (me_fb hS rfl) c0 c1).1, c1, (by decide), (by decide)⟩ (fun h1 W => (k1 (me_fb hS rfl) c0 c1).2 h1 W.1 (W.2.2.2.2.2 _ rfl))) (fun c1 => Or.elim (mi_em .gt ((mi_a h 110 (Int.toNat zk))) (((122 : Int)))) (fun c2 => ms_lxB_2 hS ok_zb ok_zk ⟨c0, (k2 (me_fb hS rfl) c0 c1 c2).1, c1, c2, (by decide), (by decide)⟩ (fun h1 W => (k2 (me_fb hS rfl) c0 c1 c2).2 h1 W.1 (W.2.2.2.2.2 _ rfl))) (fun c2 => ms_lxB_3 hS ok_zb ok_zk ⟨c0, (k3 (me_fb hS rfl) c0 c1 c2).1.1, c1, c2, (by decide), (by decide), (k3 (me_fb hS rfl) c0 c1 c2).1.2⟩ (fun h1 W => (k3 (me_fb hS rfl) c0 c1 c2).2 h1 W.1 (W.2.2.2.2.2 _ rfl)))))
set_option maxRecDepth 20000 in
theorem mp_lxC_0 (h : sm_H) (d : Nat) (zb zk : Int) : mi_path [(181, (4, 1, sb_181))] sx_sk h 15 [8, 1, 8] (d + 1, 181, 28, [some (.inr (.inr 109)), some (.inl (zb)), some (.inl (zk)), none], [], [], []) = some ((d + 1, 181, 54, [some (.inr (.inr 109)), some (.inl (zb)), some (.inl (zk)), some (.inl (zk - ((1 : Int))))], [], [.inr (.inl (14004, Int64.ofNat 0)), .inr (.inl (14004, Int64.ofNat 18446744073709551615))], []), [(-65536) ≤ (Int64.ofNat 18446744073709551615).toInt ∧ (Int64.ofNat 18446744073709551615).toInt ≤ 1073741823, -2147483648 ≤ zk - zb ∧ zk - zb ≤ 2147483647, (zk - zb) ≤ ((6 : Int)), (-65536) ≤ (Int64.ofNat 0).toInt ∧ (Int64.ofNat 0).toInt ≤ 1073741823, -2147483648 ≤ zk - ((1 : Int)) ∧ zk - ((1 : Int)) ≤ 2147483647]) := rfl
theorem mi_tab_lxC_0 : ∀ e ∈ ([(181, (4, 1, sb_181))] : mi_T), sc_P e.1 = some e.2 := mi_tb mi_P181 (mi_tb_e)
set_option maxRecDepth 20000 in
theorem ms_lxC_0 {h : sm_H} {d : Nat} {Q : Option mi_V → sm_H → Prop} {zb zk : Int} (hS : ab_Sh sx_sk h) (ok_zb : mi_in zb) (ok_zk : mi_in zk) (ho : ((-65536) ≤ (Int64.ofNat 18446744073709551615).toInt ∧ (Int64.ofNat 18446744073709551615).toInt ≤ 1073741823) ∧ (-2147483648 ≤ zk - zb ∧ zk - zb ≤ 2147483647) ∧ ((zk - zb) ≤ ((6 : Int))) ∧ ((-65536) ≤ (Int64.ofNat 0).toInt ∧ (Int64.ofNat 0).toInt ≤ 1073741823) ∧ (-2147483648 ≤ zk - ((1 : Int)) ∧ zk - ((1 : Int)) ≤ 2147483647)) (kon : ∀ h1, me_W [.inr (.inl (14004, Int64.ofNat 0)), .inr (.inl (14004, Int64.ofNat 18446744073709551615))] h h1 → me_E (d + 1) 181 54 [some (.inr (.inr 109)), some (.inl (zb)), some (.inl (zk)), some (.inl (zk - ((1 : Int))))] [] h1 Q) : me_E (d + 1) 181 28 [some (.inr (.inr 109)), some (.inl (zb)), some (.inl (zk)), none] [] h Q := me_seg (mp_lxC_0 h d zb zk) (mi_tab_lxC_0) hS (mi_okL_c (trivial) (mi_okL_c (ok_zb) (mi_okL_c (ok_zk) (mi_okL_n (mi_okL_e))))) (mi_okS_e) (mi_al (ho.1) (mi_al (ho.2.1) (mi_al (ho.2.2.1) (mi_al (ho.2.2.2.1) (mi_al (ho.2.2.2.2) (mi_al_e)))))) (fun h1 W _ hst => kon h1 W)
set_option maxRecDepth 20000 in
theorem mp_lxC_1 (h : sm_H) (d : Nat) (zb zk : Int) : mi_path [(181, (4, 1, sb_181))] sx_sk h 9 [8, 0] (d + 1, 181, 28, [some (.inr (.inr 109)), some (.inl (zb)), some (.inl (zk)), none], [], [], []) = some ((d + 1, 181, 44, [some (.inr (.inr 109)), some (.inl (zb)), some (.inl (zk)), none], [.inl (zk)], [.inr (.inl (14004, Int64.ofNat 18446744073709551615))], []), [(-65536) ≤ (Int64.ofNat 18446744073709551615).toInt ∧ (Int64.ofNat 18446744073709551615).toInt ≤ 1073741823, -2147483648 ≤ zk - zb ∧ zk - zb ≤ 2147483647, ((6 : Int)) < (zk - zb)]) := rfl
theorem mi_tab_lxC_1 : ∀ e ∈ ([(181, (4, 1, sb_181))] : mi_T), sc_P e.1 = some e.2 := mi_tb mi_P181 (mi_tb_e)
set_option maxRecDepth 20000 in
theorem ms_lxC_1 {h : sm_H} {d : Nat} {Q : Option mi_V → sm_H → Prop} {zb zk : Int} (hS : ab_Sh sx_sk h) (ok_zb : mi_in zb) (ok_zk : mi_in zk) (ho : ((-65536) ≤ (Int64.ofNat 18446744073709551615).toInt ∧ (Int64.ofNat 18446744073709551615).toInt ≤ 1073741823) ∧ (-2147483648 ≤ zk - zb ∧ zk - zb ≤ 2147483647) ∧ (((6 : Int)) < (zk - zb))) (kon : ∀ h1, me_W [.inr (.inl (14004, Int64.ofNat 18446744073709551615))] h h1 → Q (some (.inl (zk))) h1) : me_E (d + 1) 181 28 [some (.inr (.inr 109)), some (.inl (zb)), some (.inl (zk)), none] [] h Q := me_seg (mp_lxC_1 h d zb zk) (mi_tab_lxC_1) hS (mi_okL_c (trivial) (mi_okL_c (ok_zb) (mi_okL_c (ok_zk) (mi_okL_n (mi_okL_e))))) (mi_okS_e) (mi_al (ho.1) (mi_al (ho.2.1) (mi_al (ho.2.2) (mi_al_e)))) (fun h1 W _ hst => me_ret (M := (4, 1, sb_181)) rfl rfl rfl hst (mi_al_e) (kon h1 W))
set_option maxRecDepth 20000 in
theorem mt_lxC {h : sm_H} {d : Nat} {Q : Option mi_V → sm_H → Prop} {zb zk : Int} (hS : ab_Sh sx_sk h) (ok_zb : mi_in zb) (ok_zk : mi_in zk) (k0 : ((zk - zb) ≤ ((6 : Int))) → ((-2147483648 ≤ zk - zb ∧ zk - zb ≤ 2147483647) ∧ (-2147483648 ≤ zk - ((1 : Int)) ∧ zk - ((1 : Int)) ≤ 2147483647)) ∧ (∀ h1, ab_Sh sx_sk h1 → mx_l h1 14004 = Int64.ofNat 0 → ab_Fr [(14004, 14005)] h h1 → me_E (d + 1) 181 54 [some (.inr (.inr 109)), some (.inl (zb)), some (.inl (zk)), some (.inl (zk - ((1 : Int))))] [] h1 Q)) (k1 : (((6 : Int)) < (zk - zb)) → ((-2147483648 ≤ zk - zb ∧ zk - zb ≤ 2147483647)) ∧ (∀ h1, ab_Sh sx_sk h1 → mx_l h1 14004 = Int64.ofNat 18446744073709551615 → ab_Fr [(14004, 14005)] h h1 → Q (some (.inl (zk))) h1)) : me_E (d + 1) 181 28 [some (.inr (.inr 109)), some (.inl (zb)), some (.inl (zk)), none] [] h Q := Or.elim (mi_em .le ((zk - zb)) (((6 : Int)))) (fun c0 => ms_lxC_0 hS ok_zb ok_zk ⟨(by decide), (k0 c0).1.1, c0, (by decide), (k0 c0).1.2⟩ (fun h1 W => (k0 c0).2 h1 W.1 (W.2.2.2.1 14004) (W.2.2.2.2.2 _ rfl))) (fun c0 => ms_lxC_1 hS ok_zb ok_zk ⟨(by decide), (k1 c0).1, c0⟩ (fun h1 W => (k1 c0).2 h1 W.1 (W.2.2.2.1 14004) (W.2.2.2.2.2 _ rfl)))
set_option maxRecDepth 20000 in
theorem mp_lxD_0 (h : sm_H) (d : Nat) (zb zk zj : Int) : mi_path [(181, (4, 1, sb_181))] sx_sk h 4 [1] (d + 1, 181, 54, [some (.inr (.inr 109)), some (.inl (zb)), some (.inl (zk)), some (.inl (zj))], [], [], []) = some ((d + 1, 181, 88, [some (.inr (.inr 109)), some (.inl (zb)), some (.inl (zk)), some (.inl (zj))], [.inl (zk)], [], []), [zj < zb]) := rfl
theorem mi_tab_lxD_0 : ∀ e ∈ ([(181, (4, 1, sb_181))] : mi_T), sc_P e.1 = some e.2 := mi_tb mi_P181 (mi_tb_e)
set_option maxRecDepth 20000 in
theorem ms_lxD_0 {h : sm_H} {d : Nat} {Q : Option mi_V → sm_H → Prop} {zb zk zj : Int} (hS : ab_Sh sx_sk h) (ok_zb : mi_in zb) (ok_zk : mi_in zk) (ok_zj : mi_in zj) (ho : (zj < zb)) (kon : ∀ h1, me_W [] h h1 → Q (some (.inl (zk))) h1) : me_E (d + 1) 181 54 [some (.inr (.inr 109)), some (.inl (zb)), some (.inl (zk)), some (.inl (zj))] [] h Q := me_seg (mp_lxD_0 h d zb zk zj) (mi_tab_lxD_0) hS (mi_okL_c (trivial) (mi_okL_c (ok_zb) (mi_okL_c (ok_zk) (mi_okL_c (ok_zj) (mi_okL_e))))) (mi_okS_e) (mi_al (ho) (mi_al_e)) (fun h1 W _ hst => me_ret (M := (4, 1, sb_181)) rfl rfl rfl hst (mi_al_e) (kon h1 W))
set_option maxRecDepth 20000 in
theorem mp_lxD_1 (h : sm_H) (d : Nat) (zb zk zj : Int) : mi_path [(181, (4, 1, sb_181))] sx_sk h 19 [0] (d + 1, 181, 54, [some (.inr (.inr 109)), some (.inl (zb)), some (.inl (zk)), some (.inl (zj))], [], [], []) = some ((d + 1, 181, 54, [some (.inr (.inr 109)), some (.inl (zb)), some (.inl (zk)), some (.inl (zj + (-1)))], [], [.inr (.inl (14004, ((mx_l h 14004) <<< ((Int32.ofInt ((5 : Int))).toInt64 &&& 63)) ||| (((Int32.ofInt (mi_a h 110 (Int.toNat zj))).toInt64) - (Int64.ofNat 96))))], []), [zb ≤ zj, 0 ≤ zj ∧ zj < 240, (-65536) ≤ (((mx_l h 14004) <<< ((Int32.ofInt ((5 : Int))).toInt64 &&& 63)) ||| (((Int32.ofInt (mi_a h 110 (Int.toNat zj))).toInt64) - (Int64.ofNat 96))).toInt ∧ (((mx_l h 14004) <<< ((Int32.ofInt ((5 : Int))).toInt64 &&& 63)) ||| (((Int32.ofInt (mi_a h 110 (Int.toNat zj))).toInt64) - (Int64.ofNat 96))).toInt ≤ 1073741823, -2147483648 ≤ zj + (-1) ∧ zj + (-1) ≤ 2147483647]) := rfl
theorem mi_tab_lxD_1 : ∀ e ∈ ([(181, (4, 1, sb_181))] : mi_T), sc_P e.1 = some e.2 := mi_tb mi_P181 (mi_tb_e)
set_option maxRecDepth 20000 in
theorem ms_lxD_1 {h : sm_H} {d : Nat} {Q : Option mi_V → sm_H → Prop} {zb zk zj : Int} (hS : ab_Sh sx_sk h) (ok_zb : mi_in zb) (ok_zk : mi_in zk) (ok_zj : mi_in zj) (ho : (zb ≤ zj) ∧ (0 ≤ zj ∧ zj < 240) ∧ ((-65536) ≤ (((mx_l h 14004) <<< ((Int32.ofInt ((5 : Int))).toInt64 &&& 63)) ||| (((Int32.ofInt (mi_a h 110 (Int.toNat zj))).toInt64) - (Int64.ofNat 96))).toInt ∧ (((mx_l h 14004) <<< ((Int32.ofInt ((5 : Int))).toInt64 &&& 63)) ||| (((Int32.ofInt (mi_a h 110 (Int.toNat zj))).toInt64) - (Int64.ofNat 96))).toInt ≤ 1073741823) ∧ (-2147483648 ≤ zj + (-1) ∧ zj + (-1) ≤ 2147483647)) (kon : ∀ h1, me_W [.inr (.inl (14004, ((mx_l h 14004) <<< ((Int32.ofInt ((5 : Int))).toInt64 &&& 63)) ||| (((Int32.ofInt (mi_a h 110 (Int.toNat zj))).toInt64) - (Int64.ofNat 96))))] h h1 → me_E (d + 1) 181 54 [some (.inr (.inr 109)), some (.inl (zb)), some (.inl (zk)), some (.inl (zj + (-1)))] [] h1 Q) : me_E (d + 1) 181 54 [some (.inr (.inr 109)), some (.inl (zb)), some (.inl (zk)), some (.inl (zj))] [] h Q := me_seg (mp_lxD_1 h d zb zk zj) (mi_tab_lxD_1) hS (mi_okL_c (trivial) (mi_okL_c (ok_zb) (mi_okL_c (ok_zk) (mi_okL_c (ok_zj) (mi_okL_e))))) (mi_okS_e) (mi_al (ho.1) (mi_al (ho.2.1) (mi_al (ho.2.2.1) (mi_al (ho.2.2.2) (mi_al_e))))) (fun h1 W _ hst => kon h1 W)
set_option maxRecDepth 20000 in
theorem mt_lxD {h : sm_H} {d : Nat} {Q : Option mi_V → sm_H → Prop} {zb zk zj : Int} (hS : ab_Sh sx_sk h) (ok_zb : mi_in zb) (ok_zk : mi_in zk) (ok_zj : mi_in zj) (k0 : (zj < zb) → (∀ h1, ab_Sh sx_sk h1 → ab_Fr [] h h1 → Q (some (.inl (zk))) h1)) (k1 : (zb ≤ zj) → ((0 ≤ zj ∧ zj < 240) ∧ ((-65536) ≤ (((mx_l h 14004) <<< ((Int32.ofInt ((5 : Int))).toInt64 &&& 63)) ||| (((Int32.ofInt (mi_a h 110 (Int.toNat zj))).toInt64) - (Int64.ofNat 96))).toInt ∧ (((mx_l h 14004) <<< ((Int32.ofInt ((5 : Int))).toInt64 &&& 63)) ||| (((Int32.ofInt (mi_a h 110 (Int.toNat zj))).toInt64) - (Int64.ofNat 96))).toInt ≤ 1073741823) ∧ (-2147483648 ≤ zj + (-1) ∧ zj + (-1) ≤ 2147483647)) ∧ (∀ h1, ab_Sh sx_sk h1 → mx_l h1 14004 = ((mx_l h 14004) <<< ((Int32.ofInt ((5 : Int))).toInt64 &&& 63)) ||| (((Int32.ofInt (mi_a h 110 (Int.toNat zj))).toInt64) - (Int64.ofNat 96)) → ab_Fr [(14004, 14005)] h h1 → me_E (d + 1) 181 54 [some (.inr (.inr 109)), some (.inl (zb)), some (.inl (zk)), some (.inl (zj + (-1)))] [] h1 Q)) : me_E (d + 1) 181 54 [some (.inr (.inr 109)), some (.inl (zb)), some (.inl (zk)), some (.inl (zj))] [] h Q := Or.elim (mi_em .lt (zj) (zb)) (fun c0 => ms_lxD_0 hS ok_zb ok_zk ok_zj (c0) (fun h1 W => (k0 c0) h1 W.1 (W.2.2.2.2.2 _ rfl))) (fun c0 => ms_lxD_1 hS ok_zb ok_zk ok_zj ⟨c0, (k1 c0).1.1, (k1 c0).1.2.1, (k1 c0).1.2.2⟩ (fun h1 W => (k1 c0).2 h1 W.1 (W.2.2.2.1 14004) (W.2.2.2.2.2 _ rfl)))
/-! TOKENS of a description, purely: n characters c -/
def tx_low (c : Int) : Prop := 97 ≤ c ∧ c ≤ 122
def tx_dig (c : Int) : Prop := 48 ≤ c ∧ c ≤ 57
def tx_cap (c : Int) : Prop := 65 ≤ c ∧ c ≤ 90
def tx_blk (c : Int) : Prop := c = 32 ∨ c = 10
def tx_own (c : Int) : Prop := c = 61 ∨ c = 59 ∨ c = 124 ∨ c = 42 ∨ c = 63 ∨ c = 40 ∨ c = 41 ∨ c = 126 ∨ c = 43
def tx_sg (c : Int) : Prop := 32 < c ∧ c < 127 ∧ ¬ tx_low c ∧ ¬ tx_dig c ∧ ¬ tx_cap c
/-- from k on the characters are of the kind p, up to e -/
def tx_end (p : Int → Prop) (n : Int) (c : Nat → Int) (k e : Int) : Prop := k ≤ e ∧ (∀ j, k ≤ j → j < e → j < n ∧ p (c j.toNat)) ∧ ¬ (e < n ∧ p (c e.toNat))
theorem tx_end_u {p : Int → Prop} {n : Int} {c : Nat → Int} {k e e' : Int} (h : tx_end p n c k e) (h' : tx_end p n c k e') : e = e' := by
  obtain ⟨a1, a2, a3⟩ := h
  obtain ⟨b1, b2, b3⟩ := h'
  rcases Int.lt_trichotomy e e' with x | x | x
  · exact absurd (b2 e a1 x) a3
  · exact x
  · exact absurd (a2 e' b1 x) b3
theorem tx_end_n {p : Int → Prop} {n : Int} {c : Nat → Int} {k e : Int} (h : tx_end p n c k e) (hk : k ≤ n) : e ≤ n := by
  rcases Int.lt_or_le n e with x | x
  · by_cases c : k < e
    · have := (h.2.1 (e - 1) (by omega) (by omega)).1
      omega
    · omega
  · exact x
/-- letters, five bits each, the first one lowest -/
def tx_code (c : Nat → Int) (k : Int) : Nat → Int
  | 0 => 0
  | m + 1 => (c k.toNat - 96) + 32 * tx_code c (k + 1) m
theorem tx_code_b {c : Nat → Int} : ∀ (m : Nat) (k : Int), (∀ j, k ≤ j → j < k + m → tx_low (c j.toNat)) → 0 ≤ tx_code c k m ∧ tx_code c k m < 32 ^ m := by
  intro m
  induction m with
  | zero => intro k _; exact ⟨Int.le_refl _, show (0 : Int) < 32 ^ 0 from by decide⟩
  | succ m ih =>
    intro k h
    obtain ⟨i1, i2⟩ := ih (k + 1) (fun j j0 j1 => h j (by omega) (by omega))
    obtain ⟨x1, x2⟩ := h k (Int.le_refl _) (by omega)
    have e : (32 : Int) ^ (m + 1) = 32 * 32 ^ m := by rw [Int.pow_succ, Int.mul_comm]
    show 0 ≤ (c k.toNat - 96) + 32 * tx_code c (k + 1) m ∧ (c k.toNat - 96) + 32 * tx_code c (k + 1) m < 32 ^ (m + 1)
    omega
/-- the token at a: its kind t, its worth v, its place p, where it ends e (v and e: only of those that are tokens) -/
def tk_T (n : Int) (c : Nat → Int) (a t v p e : Int) : Prop :=
  tx_end tx_blk n c a p ∧ ((p = n ∧ t = 0) ∨ (p < n ∧ (
    (tx_low (c p.toNat) ∧ t = 1 ∧ tx_end tx_low n c p e ∧ ((6 < e - p ∧ v = -1) ∨ (e - p ≤ 6 ∧ v = tx_code c p (e - p).toNat))) ∨
    (tx_cap (c p.toNat) ∧ t = 2 ∧ v = c p.toNat - 65 ∧ e = p + 1) ∨
    (tx_dig (c p.toNat) ∧ t = 5 ∧ v = c p.toNat - 48 ∧ e = p + 1) ∨
    (c p.toNat = 34 ∧ ∃ q, tx_end tx_low n c (p + 1) q ∧ ((p + 1 < q ∧ q - (p + 1) < 6 ∧ q < n ∧ c q.toNat = 34 ∧ t = 3 ∧ v = tx_code c (p + 1) (q - (p + 1)).toNat ∧ e = q + 1) ∨ (¬ (p + 1 < q ∧ q - (p + 1) < 6 ∧ q < n ∧ c q.toNat = 34) ∧ t = 6))) ∨
    (c p.toNat = 39 ∧ ((p + 1 < n ∧ tx_sg (c (p + 1).toNat) ∧ t = 4 ∧ v = c (p + 1).toNat ∧ e = p + 2) ∨ (¬ (p + 1 < n ∧ tx_sg (c (p + 1).toNat)) ∧ t = 6))) ∨
    (tx_own (c p.toNat) ∧ t = c p.toNat ∧ v = 0 ∧ e = p + 1) ∨
    (¬ tx_low (c p.toNat) ∧ ¬ tx_cap (c p.toNat) ∧ ¬ tx_dig (c p.toNat) ∧ c p.toNat ≠ 34 ∧ c p.toNat ≠ 39 ∧ ¬ tx_own (c p.toNat) ∧ t = 6))))
/-- there is but one -/
theorem tk_u {n : Int} {c : Nat → Int} {a t v p e t' v' p' e' : Int} (h : tk_T n c a t v p e) (h' : tk_T n c a t' v' p' e') : t = t' ∧ p = p' ∧ (t ≠ 0 → t ≠ 6 → v = v' ∧ e = e') := by
  obtain ⟨h1, h2⟩ := h
  obtain ⟨g1, g2⟩ := h'
  have ep := tx_end_u h1 g1
  subst ep
  rcases h2 with ⟨x1, x2⟩ | ⟨x1, x2⟩
  · rcases g2 with ⟨y1, y2⟩ | ⟨y1, y2⟩
    · exact ⟨by omega, rfl, fun c => absurd x2 c⟩
    · omega
  rcases g2 with ⟨y1, y2⟩ | ⟨y1, y2⟩
  · omega
  unfold tx_low tx_cap tx_dig tx_own at x2 y2
  rcases x2 with ⟨x3, x4, x5, x6⟩ | ⟨x3, x4, x5, x6⟩ | ⟨x3, x4, x5, x6⟩ | ⟨x3, q, x5, x6⟩ | ⟨x3, x4⟩ | ⟨x3, x4, x5, x6⟩ | ⟨x3, x4, x5, x6, x7, x8, x9⟩
  · rcases y2 with ⟨y3, y4, y5, y6⟩ | ⟨y3, -⟩ | ⟨y3, -⟩ | ⟨y3, -⟩ | ⟨y3, -⟩ | ⟨y3, -⟩ | ⟨y3, -⟩
    · have ee := tx_end_u x5 y5
      subst ee
      refine ⟨by omega, rfl, fun _ _ => ⟨?_, rfl⟩⟩
      rcases x6 with ⟨u1, u2⟩ | ⟨u1, u2⟩ <;> rcases y6 with ⟨w1, w2⟩ | ⟨w1, w2⟩ <;> omega
    all_goals (exfalso; omega)
  · rcases y2 with ⟨y3, -⟩ | ⟨y3, y4, y5, y6⟩ | ⟨y3, -⟩ | ⟨y3, -⟩ | ⟨y3, -⟩ | ⟨y3, -⟩ | ⟨y3, y3b, y3c, -⟩
    · exfalso; omega
    · exact ⟨by omega, rfl, fun _ _ => ⟨by omega, by omega⟩⟩
    all_goals (exfalso; omega)
  · rcases y2 with ⟨y3, -⟩ | ⟨y3, -⟩ | ⟨y3, y4, y5, y6⟩ | ⟨y3, -⟩ | ⟨y3, -⟩ | ⟨y3, -⟩ | ⟨y3, y3b, y3c, -⟩
    · exfalso; omega
    · exfalso; omega
    · exact ⟨by omega, rfl, fun _ _ => ⟨by omega, by omega⟩⟩
    all_goals (exfalso; omega)
  · rcases y2 with ⟨y3, -⟩ | ⟨y3, -⟩ | ⟨y3, -⟩ | ⟨y3, q', y5, y6⟩ | ⟨y3, -⟩ | ⟨y3, -⟩ | ⟨y3, y3b, y3c, y3d, -⟩
    · exfalso; omega
    · exfalso; omega
    · exfalso; omega
    · have eq := tx_end_u x5 y5
      subst eq
      rcases x6 with ⟨u1, u2, u3, u4, u5, u6, u7⟩ | ⟨u1, u2⟩
      · rcases y6 with ⟨w1, w2, w3, w4, w5, w6, w7⟩ | ⟨w1, w2⟩
        · exact ⟨by omega, rfl, fun _ _ => ⟨by omega, by omega⟩⟩
        · exact absurd ⟨u1, u2, u3, u4⟩ w1
      · rcases y6 with ⟨w1, w2, w3, w4, w5, w6, w7⟩ | ⟨w1, w2⟩
        · exact absurd ⟨w1, w2, w3, w4⟩ u1
        · exact ⟨by omega, rfl, fun _ c => absurd u2 c⟩
    all_goals (exfalso; omega)
  · rcases y2 with ⟨y3, -⟩ | ⟨y3, -⟩ | ⟨y3, -⟩ | ⟨y3, -⟩ | ⟨y3, y4⟩ | ⟨y3, -⟩ | ⟨y3, y3b, y3c, y3d, y3e, -⟩
    · exfalso; omega
    · exfalso; omega
    · exfalso; omega
    · exfalso; omega
    · rcases x4 with ⟨u1, u2, u3, u4, u5⟩ | ⟨u1, u2⟩
      · rcases y4 with ⟨w1, w2, w3, w4, w5⟩ | ⟨w1, w2⟩
        · exact ⟨by omega, rfl, fun _ _ => ⟨by omega, by omega⟩⟩
        · exact absurd ⟨u1, u2⟩ w1
      · rcases y4 with ⟨w1, w2, w3, w4, w5⟩ | ⟨w1, w2⟩
        · exact absurd ⟨w1, w2⟩ u1
        · exact ⟨by omega, rfl, fun _ c => absurd u2 c⟩
    all_goals (exfalso; omega)
  · rcases y2 with ⟨y3, -⟩ | ⟨y3, -⟩ | ⟨y3, -⟩ | ⟨y3, -⟩ | ⟨y3, -⟩ | ⟨y3, y4, y5, y6⟩ | ⟨y3, y3b, y3c, y3d, y3e, y3f, -⟩
    · exfalso; omega
    · exfalso; omega
    · exfalso; omega
    · exfalso; omega
    · exfalso; omega
    · exact ⟨by omega, rfl, fun _ _ => ⟨by omega, by omega⟩⟩
    · exact absurd x3 y3f
  · rcases y2 with ⟨y3, -⟩ | ⟨y3, -⟩ | ⟨y3, -⟩ | ⟨y3, -⟩ | ⟨y3, -⟩ | ⟨y3, -⟩ | ⟨y3, y3b, y3c, y3d, y3e, y3f, y3g⟩
    · exact absurd y3 x3
    · exact absurd y3 x4
    · exact absurd y3 x5
    · exact absurd y3 x6
    · exact absurd y3 x7
    · exact absurd y3 x8
    · exact ⟨by omega, rfl, fun _ c => absurd x9 c⟩
/-- one letter more in front -/
theorem tx_pack {V : Int64} {X : Int} (v0 : 0 ≤ V.toInt) (v1 : V.toInt < 33554432) (x0 : 97 ≤ X) (x1 : X ≤ 122) : ((V <<< ((Int32.ofInt ((5 : Int))).toInt64 &&& 63)) ||| ((Int32.ofInt X).toInt64 - Int64.ofNat 96)).toInt = (X - 96) + 32 * V.toInt := by
  have okc : mi_in X := ⟨by omega, by omega⟩
  have ex : ((Int32.ofInt X).toInt64 - Int64.ofNat 96).toInt = X - 96 := by
    rw [Int64.toInt_sub, Int32.toInt_toInt64, mi_ti okc]
    have : (Int64.ofNat 96).toInt = 96 := rfl
    rw [this]
    exact Int.bmod_eq_of_le (by omega) (by omega)
  have toN : ∀ {a : Int64} {z : Int}, a.toInt = z → 0 ≤ z → z < 4611686018427387904 → (a.toBitVec.toNat : Int) = z := fun {a z} h h0 h1 => by
    have e2 : a.toBitVec.toInt = z := h
    have e3 := BitVec.toInt_eq_toNat_cond a.toBitVec
    have e4 := a.toBitVec.isLt
    split at e3 <;> omega
  have nX := toN ex (by omega) (by omega)
  have nV := toN (a := V) rfl v0 (by omega)
  generalize hA : ((Int32.ofInt X).toInt64 - Int64.ofNat 96) = A at ex nX
  have e5 : ((Int32.ofInt ((5 : Int))).toInt64 &&& 63).toBitVec.smod 64 = BitVec.ofNat 64 5 := by decide
  have main : ((V <<< ((Int32.ofInt ((5 : Int))).toInt64 &&& 63)) ||| A).toBitVec.toNat = V.toBitVec.toNat * 32 + A.toBitVec.toNat := by
    rw [Int64.toBitVec_or, BitVec.toNat_or, Int64.toBitVec_shiftLeft, e5]
    have e : (V.toBitVec <<< BitVec.ofNat 64 5) = V.toBitVec <<< 5 := by
      rw [BitVec.shiftLeft_eq', BitVec.toNat_ofNat]
    rw [e, BitVec.toNat_shiftLeft, Nat.mod_eq_of_lt (by rw [Nat.shiftLeft_eq]; omega), ← Nat.shiftLeft_add_eq_or_of_lt (by omega), Nat.shiftLeft_eq]
  show ((V <<< ((Int32.ofInt ((5 : Int))).toInt64 &&& 63)) ||| A).toBitVec.toInt = _
  rw [BitVec.toInt_eq_toNat_of_lt (by rw [main]; omega), main]
  omega
/-! the reference's scan, exactly -/
section SCX
variable {d : Nat} {h0 : sm_H} {zb zk : Int}
theorem lx54 (hS0 : ab_Sh sx_sk h0) (b0 : 0 ≤ zb) (bk : zb ≤ zk) (k6 : zk - zb ≤ 6) (k1 : zk ≤ 240) (hl : ∀ j, zb ≤ j → j < zk → tx_low (mi_a h0 110 j.toNat)) : ∀ (N : Nat) (zj : Int) (h : sm_H), zj - zb + 1 < N → zb - 1 ≤ zj → zj < zk → ab_Sh sx_sk h → ab_Fr [(14004, 14005)] h0 h → (mx_l h 14004).toInt = tx_code (mi_a h0 110) (zj + 1) (zk - 1 - zj).toNat → me_E (d + 1) 181 54 [some (.inr (.inr 109)), some (.inl zb), some (.inl zk), some (.inl zj)] [] h (fun w h' => w = some (.inl zk) ∧ ab_Sh sx_sk h' ∧ ab_Fr [(14004, 14005)] h0 h' ∧ (mx_l h' 14004).toInt = tx_code (mi_a h0 110) zb (zk - zb).toNat) := by
  intro N
  induction N with
  | zero => intro zj h hN j0; exfalso; omega
  | succ N ih =>
    intro zj h hN j0 j1 hS hF hv
    have ob : mi_in zb := ⟨by omega, by omega⟩
    have ok : mi_in zk := ⟨by omega, by omega⟩
    have oj : mi_in zj := ⟨by omega, by omega⟩
    refine mt_lxD hS ob ok oj ?_ ?_
    · intro c h1 g1 g2
      have e := me_nil g2
      subst e
      have ej : zj = zb - 1 := by omega
      subst ej
      refine ⟨rfl, hS, hF, ?_⟩
      rw [hv, show zb - 1 + 1 = zb by omega, show zk - 1 - (zb - 1) = zk - zb by omega]
    · intro c
      have ea : mi_a h 110 zj.toNat = mi_a h0 110 zj.toNat := me_a (k := 110) hF hS0 rfl rfl
      obtain ⟨x0, x1⟩ := hl zj c j1
      have em : (zk - 1 - zj).toNat + 1 = (zk - 1 - (zj - 1)).toNat := by omega
      have cb := tx_code_b (c := mi_a h0 110) (zk - 1 - zj).toNat (zj + 1) (fun j a1 a2 => hl j (by omega) (by omega))
      have p5 : (32 : Int) ^ (zk - 1 - zj).toNat ≤ 32 ^ 5 := by
        have : (32 : Nat) ^ (zk - 1 - zj).toNat ≤ 32 ^ 5 := Nat.pow_le_pow_right (by decide) (by omega)
        exact_mod_cast this
      have e32 : (32 : Int) ^ 5 = 33554432 := by decide
      have pk := tx_pack (V := mx_l h 14004) (X := mi_a h0 110 zj.toNat) (by omega) (by omega) x0 x1
      rw [ea, pk, hv]
      refine ⟨⟨⟨by omega, by omega⟩, ⟨by omega, by omega⟩, ⟨by omega, by omega⟩⟩, fun h1 g1 g2 g3 => ?_⟩
      refine ih (zj + -1) h1 (by omega) (by omega) (by omega) g1 (hF.trans g3) ?_
      rw [g2, pk, hv, show zk - 1 - (zj + -1) = zk - 1 - (zj - 1) by omega, ← em, show zj + -1 + 1 = zj by omega]
      rfl
theorem lx2 (hS0 : ab_Sh sx_sk h0) (b0 : 0 ≤ zb) : ∀ (N : Nat) (zk : Int), 240 - zk < N → zb ≤ zk → zk ≤ mi_f h0 13953 → (∀ j, zb ≤ j → j < zk → j < mi_f h0 13953 ∧ tx_low (mi_a h0 110 j.toNat)) → me_E (d + 1) 181 2 [some (.inr (.inr 109)), some (.inl zb), some (.inl zk), none] [] h0 (fun w h' => ∃ e, w = some (.inl e) ∧ tx_end tx_low (mi_f h0 13953) (mi_a h0 110) zb e ∧ ab_Sh sx_sk h' ∧ ab_Fr [(14004, 14005)] h0 h' ∧ ((6 < e - zb ∧ (mx_l h' 14004).toInt = -1) ∨ (e - zb ≤ 6 ∧ (mx_l h' 14004).toInt = tx_code (mi_a h0 110) zb (e - zb).toNat))) := by
  have bn := me_fb (c := 13953) hS0 rfl
  intro N
  induction N with
  | zero => intro zk hN j0 j1; exfalso; omega
  | succ N ih =>
    intro zk hN j0 j1 hl
    have ob : mi_in zb := ⟨by omega, by omega⟩
    have ok : mi_in zk := ⟨by omega, by omega⟩
    have fin : ¬ (zk < mi_f h0 13953 ∧ tx_low (mi_a h0 110 zk.toNat)) → me_E (d + 1) 181 28 [some (.inr (.inr 109)), some (.inl zb), some (.inl zk), none] [] h0 (fun w h' => ∃ e, w = some (.inl e) ∧ tx_end tx_low (mi_f h0 13953) (mi_a h0 110) zb e ∧ ab_Sh sx_sk h' ∧ ab_Fr [(14004, 14005)] h0 h' ∧ ((6 < e - zb ∧ (mx_l h' 14004).toInt = -1) ∨ (e - zb ≤ 6 ∧ (mx_l h' 14004).toInt = tx_code (mi_a h0 110) zb (e - zb).toNat))) := fun hc => by
      have he : tx_end tx_low (mi_f h0 13953) (mi_a h0 110) zb zk := ⟨j0, hl, hc⟩
      refine mt_lxC hS0 ob ok ?_ ?_
      · intro c
        refine ⟨⟨⟨by omega, by omega⟩, ⟨by omega, by omega⟩⟩, fun h1 g1 g2 g3 => ?_⟩
        refine (lx54 hS0 b0 j0 c (by omega) (fun j a1 a2 => (hl j a1 a2).2) 8 (zk - 1) h1 (by omega) (by omega) (by omega) g1 g3 ?_).imp (fun w h' hq => ?_)
        · rw [g2, show zk - 1 - (zk - 1) = 0 by omega]
          rfl
        · obtain ⟨q1, q2, q3, q4⟩ := hq
          exact ⟨zk, q1, he, q2, q3, Or.inr ⟨c, q4⟩⟩
      · intro c
        refine ⟨⟨by omega, by omega⟩, fun h1 g1 g2 g3 => ⟨zk, rfl, he, g1, g3, Or.inl ⟨c, ?_⟩⟩⟩
        rw [g2]
        decide
    refine mt_lxB hS0 ob ok ?_ ?_ ?_ ?_
    · intro b c h1 g1 g2
      have e := me_nil g2
      subst e
      exact fin (fun x => by omega)
    · intro b c c2
      refine ⟨⟨by omega, by omega⟩, fun h1 g1 g2 => ?_⟩
      have e := me_nil g2
      subst e
      exact fin (fun x => by have := x.2.1; omega)
    · intro b c c2 c3
      refine ⟨⟨by omega, by omega⟩, fun h1 g1 g2 => ?_⟩
      have e := me_nil g2
      subst e
      exact fin (fun x => by have := x.2.2; omega)
    · intro b c c2 c3
      refine ⟨⟨⟨by omega, by omega⟩, ⟨by omega, by omega⟩⟩, fun h1 g1 g2 => ?_⟩
      have e := me_nil g2
      subst e
      refine ih (zk + 1) (by omega) (by omega) (by omega) (fun j a1 a2 => ?_)
      by_cases ej : j = zk
      · subst ej
        exact ⟨c, c2, c3⟩
      · exact hl j a1 (by omega)
def lx_Q (h0 : sm_H) (zb : Int) (w : Option mi_V) (h' : sm_H) : Prop := ∃ e, w = some (.inl e) ∧ tx_end tx_low (mi_f h0 13953) (mi_a h0 110) zb e ∧ ab_Sh sx_sk h' ∧ ab_Fr [(14004, 14005)] h0 h' ∧ ((6 < e - zb ∧ (mx_l h' 14004).toInt = -1) ∨ (e - zb ≤ 6 ∧ (mx_l h' 14004).toInt = tx_code (mi_a h0 110) zb (e - zb).toNat))
theorem me_lettersx (hS0 : ab_Sh sx_sk h0) (b0 : 0 ≤ zb) (b1 : zb ≤ mi_f h0 13953) : me_E (d + 1) 181 0 [some (.inr (.inr 109)), some (.inl zb), none, none] [] h0 (lx_Q h0 zb) := by
  have bn := me_fb (c := 13953) hS0 rfl
  refine mt_lxA hS0 ⟨by omega, by omega⟩ (fun h1 g1 g2 => ?_)
  have e := me_nil g2
  subst e
  exact lx2 hS0 b0 242 zb (by omega) (by omega) b1 (fun j a1 a2 => by omega)
/-- what scan leaves: the token at the place where it began -/
def sx_Q (h0 : sm_H) (a : Int) (w : Option mi_V) (h' : sm_H) : Prop := w = none ∧ ab_Sh sx_sk h' ∧ ab_Fr sn_W h0 h' ∧ tk_T (mi_f h0 13953) (mi_a h0 110) a (mi_f h' 14001) (mx_l h' 14004).toInt (mi_f h' 14002) (mi_f h' 14000)
variable {h : sm_H} {zc a : Int}
/-- the place is known, the character is not of a word, no letter, no digit, no mark of a keyword or sign -/
theorem sx336 (hS0 : ab_Sh sx_sk h0) (hS : ab_Sh sx_sk h) (hF : ab_Fr sn_W h0 h) (hp : tx_end tx_blk (mi_f h0 13953) (mi_a h0 110) a (mi_f h 14002)) (hpn : mi_f h 14002 < mi_f h0 13953) (hc : zc = mi_a h0 110 (mi_f h 14002).toNat) (oc : mi_in zc) (hat : mi_f h 14000 = mi_f h 14002 + 1) (hv : (mx_l h 14004).toInt = 0) (n1 : ¬ tx_low zc) (n2 : ¬ tx_cap zc) (n3 : ¬ tx_dig zc) (n4 : zc ≠ 34) (n5 : zc ≠ 39) : me_E (d + 2) 177 336 [some (.inr (.inr 109)), some (.inl zc), none, none] [] h (sx_Q h0 a) := by
  have yes : tx_own zc → me_E (d + 2) 177 395 [some (.inr (.inr 109)), some (.inl zc), none, none] [.inl 1] h (sx_Q h0 a) := fun ho => by
    refine mt_scL hS oc ⟨by decide, by decide⟩ (fun x => absurd x (by decide)) (fun _ h1 g1 g2 g3 => ?_)
    have e0 : mi_f h1 14000 = mi_f h 14000 := me_f (c := 14000) g3 hS rfl rfl
    have e2 : mi_f h1 14002 = mi_f h 14002 := me_f (c := 14002) g3 hS rfl rfl
    have e4 : mx_l h1 14004 = mx_l h 14004 := me_l (c := 14004) g3 hS rfl rfl
    refine ⟨rfl, g1, hF.trans (g3.wide (fun c hc => ab_swr_ok (by decide) hc)), ?_⟩
    rw [e0, e2, e4, g2]
    refine ⟨hp, Or.inr ⟨hpn, Or.inr (Or.inr (Or.inr (Or.inr (Or.inr (Or.inl ⟨?_, ?_, hv, hat⟩)))))⟩⟩
    · rw [← hc]; exact ho
    · exact hc
  refine mt_scK hS oc ?_ ?_ ?_ ?_ ?_ ?_ ?_ ?_ ?_ ?_
  · intro c h1 g1 g2; have e := me_nil g2; subst e; exact yes (by unfold tx_own; omega)
  · intro _ c h1 g1 g2; have e := me_nil g2; subst e; exact yes (by unfold tx_own; omega)
  · intro _ _ c h1 g1 g2; have e := me_nil g2; subst e; exact yes (by unfold tx_own; omega)
  · intro _ _ _ c h1 g1 g2; have e := me_nil g2; subst e; exact yes (by unfold tx_own; omega)
  · intro _ _ _ _ c h1 g1 g2; have e := me_nil g2; subst e; exact yes (by unfold tx_own; omega)
  · intro _ _ _ _ _ c h1 g1 g2; have e := me_nil g2; subst e; exact yes (by unfold tx_own; omega)
  · intro _ _ _ _ _ _ c h1 g1 g2; have e := me_nil g2; subst e; exact yes (by unfold tx_own; omega)
  · intro _ _ _ _ _ _ _ c h1 g1 g2; have e := me_nil g2; subst e; exact yes (by unfold tx_own; omega)
  · intro c1 c2 c3 c4 c5 c6 c7 c8 c9 h1 g1 g2
    have e := me_nil g2
    subst e
    refine mt_scL hS oc ⟨by decide, by decide⟩ (fun _ h2 g1 g2 g3 => ?_) (fun x => absurd rfl x)
    have e2 : mi_f h2 14002 = mi_f h1 14002 := me_f (c := 14002) g3 hS rfl rfl
    refine ⟨rfl, g1, hF.trans (g3.wide (fun c hc => ab_swr_ok (by decide) hc)), ?_⟩
    rw [e2, g2]
    refine ⟨hp, Or.inr ⟨hpn, Or.inr (Or.inr (Or.inr (Or.inr (Or.inr (Or.inr ?_)))))⟩⟩
    rw [← hc]
    exact ⟨n1, n2, n3, n4, n5, by unfold tx_own; omega, rfl⟩
  · intro _ _ _ _ _ _ _ _ c h1 g1 g2; have e := me_nil g2; subst e; exact yes (by unfold tx_own; omega)
theorem sx244 (hS0 : ab_Sh sx_sk h0) (hS : ab_Sh sx_sk h) (hF : ab_Fr sn_W h0 h) (hp : tx_end tx_blk (mi_f h0 13953) (mi_a h0 110) a (mi_f h 14002)) (hpn : mi_f h 14002 < mi_f h0 13953) (hc : zc = mi_a h0 110 (mi_f h 14002).toNat) (oc : mi_in zc) (hat : mi_f h 14000 = mi_f h 14002 + 1) (hv : (mx_l h 14004).toInt = 0) (n1 : ¬ tx_low zc) (n2 : ¬ tx_cap zc) (n3 : ¬ tx_dig zc) (n4 : zc ≠ 34) : me_E (d + 2) 177 244 [some (.inr (.inr 109)), some (.inl zc), none, none] [] h (sx_Q h0 a) := by
  have b2 := me_fb (c := 14002) hS rfl
  have bn := me_fb (c := 13953) hS0 rfl
  have en : mi_f h 13953 = mi_f h0 13953 := me_f (c := 13953) hF hS0 rfl rfl
  have ea : ∀ i, mi_a h 110 i = mi_a h0 110 i := fun i => me_a (k := 110) hF hS0 rfl rfl
  /- the sign's character s; q: whether it is one -/
  have fin : ∀ {zs zz : Int}, mi_in zs → -65536 ≤ zs → zs ≤ 1073741823 → (zz = 0 ∨ zz = 1) → zc = 39 → (zz = 1 → mi_f h 14002 + 1 < mi_f h0 13953 ∧ tx_sg (mi_a h0 110 (mi_f h 14002 + 1).toNat) ∧ zs = mi_a h0 110 (mi_f h 14002 + 1).toNat) → (zz = 0 → ¬ (mi_f h 14002 + 1 < mi_f h0 13953 ∧ tx_sg (mi_a h0 110 (mi_f h 14002 + 1).toNat))) → me_E (d + 2) 177 302 [some (.inr (.inr 109)), some (.inl zc), some (.inl zs), none] [.inl zz] h (sx_Q h0 a) := fun {zs zz} os s0 s1 oz c39 y1 y0 => by
    have es : ((Int32.ofInt zs).toInt64).toInt = zs := by rw [Int32.toInt_toInt64, mi_ti os]
    refine mt_scJ hS oc os ⟨by omega, by omega⟩ ?_ ?_
    · intro b c
      rw [es]
      refine ⟨⟨⟨s0, s1⟩, ⟨by omega, by omega⟩, ⟨by omega, by omega⟩⟩, fun h1 g1 g2 g3 g4 g5 => ?_⟩
      have e2 : mi_f h1 14002 = mi_f h 14002 := me_f (c := 14002) g5 hS rfl rfl
      refine ⟨rfl, g1, hF.trans (g5.wide (fun c hc => ab_swr_ok (by decide) hc)), ?_⟩
      rw [e2, g3]
      exact ⟨hp, Or.inr ⟨hpn, Or.inr (Or.inr (Or.inr (Or.inr (Or.inl ⟨by rw [← hc]; exact c39, Or.inr ⟨y0 c, rfl⟩⟩))))⟩⟩
    · intro b c
      rw [es]
      obtain ⟨w1, w2, w3⟩ := y1 (by omega)
      refine ⟨⟨⟨s0, s1⟩, ⟨by omega, by omega⟩, ⟨by omega, by omega⟩⟩, fun h1 g1 g2 g3 g4 g5 => ?_⟩
      have e2 : mi_f h1 14002 = mi_f h 14002 := me_f (c := 14002) g5 hS rfl rfl
      refine ⟨rfl, g1, hF.trans (g5.wide (fun c hc => ab_swr_ok (by decide) hc)), ?_⟩
      rw [e2, g3, g4, es, g2, hat]
      exact ⟨hp, Or.inr ⟨hpn, Or.inr (Or.inr (Or.inr (Or.inr (Or.inl ⟨by rw [← hc]; exact c39, Or.inl ⟨w1, w2, rfl, w3, by omega⟩⟩))))⟩⟩
  have mid : ∀ {zs : Int}, mi_in zs → -65536 ≤ zs → zs ≤ 1073741823 → zc = 39 → ((mi_f h 14002 + 1 < mi_f h0 13953 ∧ zs = mi_a h0 110 (mi_f h 14002 + 1).toNat) ∨ (mi_f h0 13953 ≤ mi_f h 14002 + 1 ∧ zs = 0)) → me_E (d + 2) 177 259 [some (.inr (.inr 109)), some (.inl zc), some (.inl zs), none] [] h (sx_Q h0 a) := fun {zs} os s0 s1 c39 hz => by
    have no : ¬ tx_sg zs → me_E (d + 2) 177 302 [some (.inr (.inr 109)), some (.inl zc), some (.inl zs), none] [.inl 0] h (sx_Q h0 a) := fun hn => fin os s0 s1 (Or.inl rfl) c39 (fun x => absurd x (by decide)) (fun _ x => by
      rcases hz with ⟨z1, z2⟩ | ⟨z1, z2⟩
      · rw [z2] at hn
        exact hn x.2
      · omega)
    have yes : tx_sg zs → me_E (d + 2) 177 302 [some (.inr (.inr 109)), some (.inl zc), some (.inl zs), none] [.inl 1] h (sx_Q h0 a) := fun hn => fin os s0 s1 (Or.inr rfl) c39 (fun _ => by
      rcases hz with ⟨z1, z2⟩ | ⟨z1, z2⟩
      · exact ⟨z1, by rw [← z2]; exact hn, z2⟩
      · have := hn.1
        omega) (fun x => absurd x (by decide))
    unfold tx_sg tx_low tx_dig tx_cap at no yes
    refine mt_scI hS oc os ?_ ?_ ?_ ?_ ?_ ?_ ?_ ?_ ?_ ?_ ?_ ?_ ?_ ?_ ?_ ?_ ?_
    · intro c1 h1 g1 g2; have e := me_nil g2; subst e; exact no (by omega)
    · intro c1 c2 h1 g1 g2; have e := me_nil g2; subst e; exact no (by omega)
    · intro c1 c2 c3 c4 c5 h1 g1 g2; have e := me_nil g2; subst e; exact yes (by omega)
    · intro c1 c2 c3 c4 c5 c6; exfalso; omega
    · intro c1 c2 c3 c4 c5 c6; exfalso; omega
    · intro c1 c2 c3 c4 c5 c6 h1 g1 g2; have e := me_nil g2; subst e; exact yes (by omega)
    · intro c1 c2 c3 c4 c5 c6 c7 h1 g1 g2; have e := me_nil g2; subst e; exact no (by omega)
    · intro c1 c2 c3 c4 c5 c6 c7 h1 g1 g2; have e := me_nil g2; subst e; exact yes (by omega)
    · intro c1 c2 c3 c4 c5 h1 g1 g2; have e := me_nil g2; subst e; exact no (by omega)
    · intro c1 c2 c3 c4 c5 c6; exfalso; omega
    · intro c1 c2 c3 c4 c5 c6 c7; exfalso; omega
    · intro c1 c2 c3 c4 c5 c6 c7; exfalso; omega
    · intro c1 c2 c3 c4 c5 c6 c7; exfalso; omega
    · intro c1 c2 c3 c4 c5 c6 c7 c8; exfalso; omega
    · intro c1 c2 c3 c4 c5 c6 c7 c8 h1 g1 g2; have e := me_nil g2; subst e; exact yes (by omega)
    · intro c1 c2 c3 c4 c5 c6; exfalso; omega
    · intro c1 c2 c3 c4 h1 g1 g2; have e := me_nil g2; subst e; exact no (by omega)
  refine mt_scH hS oc ?_ ?_ ?_
  · intro c h1 g1 g2
    have e := me_nil g2
    subst e
    exact sx336 hS0 hS hF hp hpn hc oc hat hv n1 n2 n3 n4 c
  · intro b1 b3 c c2 h1 g1 g2
    have e := me_nil g2
    subst e
    exact mid ⟨by decide, by decide⟩ (by decide) (by decide) c (Or.inr ⟨by omega, rfl⟩)
  · intro b1 b3 c c2
    have bc := me_ab (k := 110) (i := (mi_f h 14000).toNat) hS rfl (by decide) (by omega)
    refine ⟨⟨by omega, by omega⟩, fun h1 g1 g2 => ?_⟩
    have e := me_nil g2
    subst e
    refine mid ⟨by omega, by omega⟩ (by omega) (by omega) c (Or.inl ⟨by omega, ?_⟩)
    rw [ea, hat]
end SCX
/-! the reference's scan, exactly: from its begin -/
section SCY
variable {d : Nat} {h0 h : sm_H} {zc a : Int}
theorem sx170 (hS0 : ab_Sh sx_sk h0) (hS : ab_Sh sx_sk h) (hF : ab_Fr sn_W h0 h) (hp : tx_end tx_blk (mi_f h0 13953) (mi_a h0 110) a (mi_f h 14002)) (hpn : mi_f h 14002 < mi_f h0 13953) (hc : zc = mi_a h0 110 (mi_f h 14002).toNat) (oc : mi_in zc) (hat : mi_f h 14000 = mi_f h 14002 + 1) (hv : (mx_l h 14004).toInt = 0) (n1 : ¬ tx_low zc) (n2 : ¬ tx_cap zc) (n3 : ¬ tx_dig zc) : me_E (d + 2) 177 170 [some (.inr (.inr 109)), some (.inl zc), none, none] [] h (sx_Q h0 a) := by
  have b2 := me_fb (c := 14002) hS rfl
  have bn := me_fb (c := 13953) hS0 rfl
  have en : mi_f h 13953 = mi_f h0 13953 := me_f (c := 13953) hF hS0 rfl rfl
  have ea : mi_a h 110 = mi_a h0 110 := funext (fun i => me_a (k := 110) hF hS0 rfl rfl)
  refine mt_scF hS oc ?_ ?_
  · intro c h1 g1 g2
    have e := me_nil g2
    subst e
    exact sx244 hS0 hS hF hp hpn hc oc hat hv n1 n2 n3 c
  · intro c34 h1 g1 g2
    have e := me_nil g2
    subst e
    refine ⟨_, me_lettersx (d := d) (zb := mi_f h1 14000) hS (by omega) (by omega), fun w h2 ow hq => ?_⟩
    obtain ⟨q, rfl, q1, q2, q3, q4⟩ := hq
    rw [en, ea, hat] at q1
    rw [ea, hat] at q4
    have qn := tx_end_n q1 (by omega)
    have q0 := q1.1
    have oq : mi_in q := ⟨by omega, by omega⟩
    have e0 : mi_f h2 14000 = mi_f h1 14002 + 1 := (me_f (c := 14000) q3 hS rfl rfl).trans hat
    have e2 : mi_f h2 14002 = mi_f h1 14002 := me_f (c := 14002) q3 hS rfl rfl
    have en2 : mi_f h2 13953 = mi_f h0 13953 := (me_f (c := 13953) q3 hS rfl rfl).trans en
    have ea2 : ∀ i, mi_a h2 110 i = mi_a h0 110 i := fun i => (me_a (k := 110) q3 hS rfl rfl).trans (by rw [ea])
    have F2 : ab_Fr sn_W h0 h2 := hF.trans (q3.wide (fun c hc => ab_swr_ok (by decide) hc))
    have no : ¬ (mi_f h1 14002 + 1 < q ∧ q - (mi_f h1 14002 + 1) < 6 ∧ q < mi_f h0 13953 ∧ mi_a h0 110 q.toNat = 34) → me_E (d + 2) 177 219 [some (.inr (.inr 109)), some (.inl zc), some (.inl q), none] [.inl 0] h2 (sx_Q h0 a) := fun hn => by
      refine mt_scG2 q2 oc oq ⟨by decide, by decide⟩ ?_ (fun x => absurd rfl x)
      intro _
      refine ⟨⟨⟨by omega, by omega⟩, ⟨by omega, by omega⟩⟩, fun h3 g1 g2 g3 g4 => ?_⟩
      have e22 : mi_f h3 14002 = mi_f h1 14002 := (me_f (c := 14002) g4 q2 rfl rfl).trans e2
      refine ⟨rfl, g1, F2.trans (g4.wide (fun c hc => ab_swr_ok (by decide) hc)), ?_⟩
      rw [e22, g3]
      exact ⟨hp, Or.inr ⟨hpn, Or.inr (Or.inr (Or.inr (Or.inl ⟨by rw [← hc]; exact c34, q, q1, Or.inr ⟨hn, rfl⟩⟩)))⟩⟩
    refine mt_scG q2 oc oq ?_ ?_ ?_ ?_ ?_
    · intro b c h3 g1 g2
      have e := me_nil g2
      subst e
      exact no (fun x => by omega)
    · intro b c c2
      refine ⟨⟨by omega, by omega⟩, fun h3 g1 g2 => ?_⟩
      have e := me_nil g2
      subst e
      exact no (fun x => by omega)
    · intro b b3 c c2 c3
      refine ⟨⟨by omega, by omega⟩, fun h3 g1 g2 => ?_⟩
      have e := me_nil g2
      subst e
      exact no (fun x => by omega)
    · intro b b3 c c2 c3 c4
      refine ⟨⟨⟨by omega, by omega⟩, ⟨by omega, by omega⟩⟩, fun h3 g1 g2 => ?_⟩
      have e := me_nil g2
      subst e
      refine no (fun x => ?_)
      rw [ea2] at c4
      exact c4 x.2.2.2
    · intro b b3 c c2 c3 c4
      refine ⟨⟨⟨by omega, by omega⟩, ⟨by omega, by omega⟩⟩, fun h3 g1 g2 => ?_⟩
      have e := me_nil g2
      subst e
      rw [ea2] at c4
      refine mt_scG2 q2 oc oq ⟨by decide, by decide⟩ (fun x => absurd x (by decide)) ?_
      intro _
      refine ⟨⟨⟨by omega, by omega⟩, ⟨by omega, by omega⟩⟩, fun h4 g1 g2 g3 g4 => ?_⟩
      have e22 : mi_f h4 14002 = mi_f h1 14002 := (me_f (c := 14002) g4 q2 rfl rfl).trans e2
      have e4 : mx_l h4 14004 = mx_l h3 14004 := me_l (c := 14004) g4 q2 rfl rfl
      refine ⟨rfl, g1, F2.trans (g4.wide (fun c hc => ab_swr_ok (by decide) hc)), ?_⟩
      rw [e22, g3, e4, g2]
      refine ⟨hp, Or.inr ⟨hpn, Or.inr (Or.inr (Or.inr (Or.inl ⟨by rw [← hc]; exact c34, q, q1, Or.inl ⟨by omega, by omega, by omega, c4, rfl, ?_, rfl⟩⟩)))⟩⟩
      rcases q4 with ⟨u1, u2⟩ | ⟨u1, u2⟩
      · omega
      · exact u2
theorem sx117 (hS0 : ab_Sh sx_sk h0) (hS : ab_Sh sx_sk h) (hF : ab_Fr sn_W h0 h) (hp : tx_end tx_blk (mi_f h0 13953) (mi_a h0 110) a (mi_f h 14002)) (hpn : mi_f h 14002 < mi_f h0 13953) (hc : zc = mi_a h0 110 (mi_f h 14002).toNat) (oc : mi_in zc) (hat : mi_f h 14000 = mi_f h 14002 + 1) (hv : (mx_l h 14004).toInt = 0) (n1 : ¬ tx_low zc) : me_E (d + 2) 177 117 [some (.inr (.inr 109)), some (.inl zc), none, none] [] h (sx_Q h0 a) := by
  have es : ∀ {z : Int}, mi_in z → ((Int32.ofInt z).toInt64).toInt = z := fun {z} oz => by rw [Int32.toInt_toInt64, mi_ti oz]
  have dig : tx_dig zc → ∀ h1, ab_Sh sx_sk h1 → mi_f h1 14001 = (5 : Int) → mx_l h1 14004 = (Int32.ofInt (zc - ((48 : Int)))).toInt64 → ab_Fr [(14001, 14002), (14004, 14005)] h h1 → sx_Q h0 a none h1 := fun hd h1 g1 g2 g3 g4 => by
    have hd' := hd
    unfold tx_dig at hd'
    have e0 : mi_f h1 14000 = mi_f h 14000 := me_f (c := 14000) g4 hS rfl rfl
    have e2 : mi_f h1 14002 = mi_f h 14002 := me_f (c := 14002) g4 hS rfl rfl
    refine ⟨rfl, g1, hF.trans (g4.wide (fun c hc => ab_swr_ok (by decide) hc)), ?_⟩
    rw [e0, e2, g2, g3, es ⟨by omega, by omega⟩, hat]
    exact ⟨hp, Or.inr ⟨hpn, Or.inr (Or.inr (Or.inl ⟨by rw [← hc]; exact hd, rfl, by rw [hc], rfl⟩))⟩⟩
  have on : ¬ tx_cap zc → ¬ tx_dig zc → ∀ h1, ab_Sh sx_sk h1 → ab_Fr [] h h1 → me_E (d + 2) 177 170 [some (.inr (.inr 109)), some (.inl zc), none, none] [] h1 (sx_Q h0 a) := fun n2 n3 h1 g1 g2 => by
    have e := me_nil g2
    subst e
    exact sx170 hS0 hS hF hp hpn hc oc hat hv n1 n2 n3
  refine mt_scE hS oc ?_ ?_ ?_ ?_ ?_ ?_ ?_
  · intro c1 c2
    exact on (fun x => by have := x.1; omega) (fun x => by have := x.1; omega)
  · intro c1 c2 c3
    exact on (fun x => by have := x.1; omega) (fun x => by have := x.2; omega)
  · intro c1 c2 c3
    refine ⟨⟨⟨by omega, by omega⟩, ?_⟩, dig ⟨c2, c3⟩⟩
    rw [es ⟨by omega, by omega⟩]
    omega
  · intro c1 c2 c3
    exfalso; omega
  · intro c1 c2 c3 c4
    exact on (fun x => by have := x.2; omega) (fun x => by have := x.2; omega)
  · intro c1 c2 c3 c4
    exfalso; omega
  · intro c1 c2
    refine ⟨⟨⟨by omega, by omega⟩, ?_⟩, fun h1 g1 g2 g3 g4 => ?_⟩
    · rw [es ⟨by omega, by omega⟩]
      omega
    · have e0 : mi_f h1 14000 = mi_f h 14000 := me_f (c := 14000) g4 hS rfl rfl
      have e2 : mi_f h1 14002 = mi_f h 14002 := me_f (c := 14002) g4 hS rfl rfl
      refine ⟨rfl, g1, hF.trans (g4.wide (fun c hc => ab_swr_ok (by decide) hc)), ?_⟩
      rw [e0, e2, g2, g3, es ⟨by omega, by omega⟩, hat]
      exact ⟨hp, Or.inr ⟨hpn, Or.inr (Or.inl ⟨by rw [← hc]; exact ⟨c1, c2⟩, rfl, by rw [hc], rfl⟩)⟩⟩
theorem sx71 (hS0 : ab_Sh sx_sk h0) (hS : ab_Sh sx_sk h) (hF : ab_Fr sn_W h0 h) (hp : tx_end tx_blk (mi_f h0 13953) (mi_a h0 110) a (mi_f h 14002)) (hpn : mi_f h 14002 ≤ mi_f h0 13953) (hc : mi_f h 14002 < mi_f h0 13953 → zc = mi_a h0 110 (mi_f h 14002).toNat) (oc : mi_in zc) (hat : mi_f h 14000 = mi_f h 14002 + 1) (hv : (mx_l h 14004).toInt = 0) : me_E (d + 2) 177 71 [some (.inr (.inr 109)), some (.inl zc), none, none] [] h (sx_Q h0 a) := by
  have b2 := me_fb (c := 14002) hS rfl
  have en : mi_f h 13953 = mi_f h0 13953 := me_f (c := 13953) hF hS0 rfl rfl
  have ea : mi_a h 110 = mi_a h0 110 := funext (fun i => me_a (k := 110) hF hS0 rfl rfl)
  refine mt_scC hS oc ?_ ?_ ?_ ?_
  · intro b b3 c c2 h1 g1 g2
    have e := me_nil g2
    subst e
    exact sx117 hS0 hS hF hp (by omega) (hc (by omega)) oc hat hv (fun x => by have := x.1; omega)
  · intro b b3 c c2 c3 h1 g1 g2
    have e := me_nil g2
    subst e
    exact sx117 hS0 hS hF hp (by omega) (hc (by omega)) oc hat hv (fun x => by have := x.2; omega)
  · intro b b3 c c2 c3 h1 g1 g2
    have e := me_nil g2
    subst e
    have hl : mi_f h1 14002 < mi_f h0 13953 := by omega
    refine ⟨_, me_lettersx (d := d) (zb := mi_f h1 14002) hS (by omega) (by omega), fun w h2 ow hq => ?_⟩
    obtain ⟨q, rfl, q1, q2, q3, q4⟩ := hq
    rw [en, ea] at q1
    rw [ea] at q4
    have qn := tx_end_n q1 (by omega)
    have q0 := q1.1
    refine mt_scD (zz := q) q2 oc ⟨by omega, by omega⟩ ⟨⟨by omega, by omega⟩, fun h3 g1 g2 g3 g4 => ?_⟩
    have e2 : mi_f h3 14002 = mi_f h1 14002 := (me_f (c := 14002) g4 q2 rfl rfl).trans (me_f (c := 14002) q3 hS rfl rfl)
    have e4 : mx_l h3 14004 = mx_l h2 14004 := me_l (c := 14004) g4 q2 rfl rfl
    refine ⟨rfl, g1, (hF.trans (q3.wide (fun c hc => ab_swr_ok (by decide) hc))).trans (g4.wide (fun c hc => ab_swr_ok (by decide) hc)), ?_⟩
    rw [e2, e4, g2, g3]
    exact ⟨hp, Or.inr ⟨hl, Or.inl ⟨by rw [← hc hl]; exact ⟨c2, c3⟩, rfl, q1, q4⟩⟩⟩
  · intro b b3 c h1 g1 g2 g3
    have e2 : mi_f h1 14002 = mi_f h 14002 := me_f (c := 14002) g3 hS rfl rfl
    refine ⟨rfl, g1, hF.trans (g3.wide (fun c hc => ab_swr_ok (by decide) hc)), ?_⟩
    rw [e2, g2]
    exact ⟨hp, Or.inl ⟨by omega, rfl⟩⟩
theorem sx39 (hS0 : ab_Sh sx_sk h0) (hS : ab_Sh sx_sk h) (hF : ab_Fr sn_W h0 h) (hp : tx_end tx_blk (mi_f h0 13953) (mi_a h0 110) a (mi_f h 14000)) (hpn : mi_f h 14000 ≤ mi_f h0 13953) : me_E (d + 2) 177 39 [some (.inr (.inr 109)), none, none, none] [] h (sx_Q h0 a) := by
  have bn := me_fb (c := 13953) hS0 rfl
  have en : mi_f h 13953 = mi_f h0 13953 := me_f (c := 13953) hF hS0 rfl rfl
  have ea : mi_a h 110 = mi_a h0 110 := funext (fun i => me_a (k := 110) hF hS0 rfl rfl)
  refine mt_scB hS ?_ ?_
  · intro b b2 c
    refine ⟨⟨⟨by omega, by omega⟩, ⟨by omega, by omega⟩, ⟨by omega, by omega⟩⟩, fun h1 g1 g2 g3 g4 g5 => ?_⟩
    exact sx71 hS0 g1 (hF.trans (g5.wide (fun c hc => ab_swr_ok (by decide) hc))) (by rw [g3]; exact hp) (by omega) (fun x => by omega) ⟨by decide, by decide⟩ (by omega) (by rw [g4]; rfl)
  · intro b b2 c
    have bc := me_ab (k := 110) (i := (mi_f h 14000).toNat) hS rfl (by decide) (by omega)
    refine ⟨⟨⟨by omega, by omega⟩, ⟨by omega, by omega⟩, ⟨by omega, by omega⟩, ⟨by omega, by omega⟩⟩, fun h1 g1 g2 g3 g4 g5 => ?_⟩
    exact sx71 hS0 g1 (hF.trans (g5.wide (fun c hc => ab_swr_ok (by decide) hc))) (by rw [g3]; exact hp) (by omega) (fun _ => by rw [g3, ea]) ⟨by omega, by omega⟩ (by omega) (by rw [g4]; rfl)
theorem sx0 (hS0 : ab_Sh sx_sk h0) : ∀ (N : Nat) (h : sm_H), 240 - mi_f h 14000 < N → ab_Sh sx_sk h → ab_Fr sn_W h0 h → a ≤ mi_f h 14000 → mi_f h 14000 ≤ mi_f h0 13953 → (∀ j, a ≤ j → j < mi_f h 14000 → j < mi_f h0 13953 ∧ tx_blk (mi_a h0 110 j.toNat)) → me_E (d + 2) 177 0 [some (.inr (.inr 109)), none, none, none] [] h (sx_Q h0 a) := by
  have bn := me_fb (c := 13953) hS0 rfl
  intro N
  induction N with
  | zero => intro h hN hS hF h0 h1; exfalso; omega
  | succ N ih =>
    intro h hN hS hF ha0 ha1 hb
    have en : mi_f h 13953 = mi_f h0 13953 := me_f (c := 13953) hF hS0 rfl rfl
    have ea : mi_a h 110 = mi_a h0 110 := funext (fun i => me_a (k := 110) hF hS0 rfl rfl)
    have on : tx_blk (mi_a h 110 (mi_f h 14000).toNat) → mi_f h 14000 < mi_f h 13953 → ∀ h1, ab_Sh sx_sk h1 → mi_f h1 14000 = mi_f h 14000 + 1 → ab_Fr [(14000, 14001)] h h1 → me_E (d + 2) 177 0 [some (.inr (.inr 109)), none, none, none] [] h1 (sx_Q h0 a) := fun hk hl h1 g1 g2 g3 => by
      refine ih h1 (by omega) g1 (hF.trans (g3.wide (fun c hc => ab_swr_ok (by decide) hc))) (by omega) (by omega) (fun j a1 a2 => ?_)
      by_cases e : j = mi_f h 14000
      · rw [e]
        rw [ea] at hk
        exact ⟨by omega, hk⟩
      · exact hb j a1 (by omega)
    have fin : ¬ (mi_f h 14000 < mi_f h0 13953 ∧ tx_blk (mi_a h0 110 (mi_f h 14000).toNat)) → ∀ h1, ab_Sh sx_sk h1 → ab_Fr [] h h1 → me_E (d + 2) 177 39 [some (.inr (.inr 109)), none, none, none] [] h1 (sx_Q h0 a) := fun hn h1 g1 g2 => by
      have e := me_nil g2
      subst e
      exact sx39 hS0 hS hF ⟨ha0, hb, hn⟩ ha1
    refine mt_scA hS ?_ ?_ ?_ ?_
    · intro b b2 c
      exact fin (fun x => by omega)
    · intro b b2 c c2
      refine ⟨⟨⟨by omega, by omega⟩, ⟨by omega, by omega⟩, ⟨by omega, by omega⟩⟩, on (Or.inl c2) c⟩
    · intro b b2 c c2 c3
      refine ⟨⟨by omega, by omega⟩, fin (fun x => ?_)⟩
      rw [ea] at c2 c3
      exact x.2.elim c2 c3
    · intro b b2 c c2 c3
      refine ⟨⟨⟨by omega, by omega⟩, ⟨by omega, by omega⟩, ⟨by omega, by omega⟩⟩, on (Or.inr c3) c⟩
/-- scan tells the token at the place where it stands -/
theorem me_scanx (hS : ab_Sh sx_sk h) (ha : mi_f h 14000 ≤ mi_f h 13953) : me_E (d + 2) 177 0 [some (.inr (.inr 109)), none, none, none] [] h (sx_Q h (mi_f h 14000)) := by
  have bn := me_fb (c := 13953) hS rfl
  exact sx0 hS 242 h (by have := me_fb (c := 14000) hS rfl; omega) hS ab_Fr.refl (Int.le_refl _) ha (fun j a1 a2 => by omega)
end SCY
/-! THE MACHINE OVER INTEGERS, for the class's methods too: lengths of rows, characters, constants, calls on any of the cells -/
/-- steps that mi_step does not know; what is read lies in the cells h behind O -/
def mj_step (sk : ab_K) (q : sm_I) (pc : Nat) (ls : mi_L) (st : List mi_V) (h : sm_H) (O : List mi_U) (b : Nat) : Option mi_R := match q with
  | (i, _, rs) => match i with
    | .arraylength => match st with
      | .inr (.inr a) :: r => match sk[a]? with
        | some (some (.inl (t, n, _, _, _))) => if (sm_ty t).isSome ∧ n < 2147483648 then some (pc + 1, ls, .inl (n : Int) :: r, O, []) else none
        | _ => none
      | _ => none
    | .baload => match st with
      | .inl x :: .inr (.inr a) :: r => match sk[a]? with
        | some (some (.inl (t, n, _, _, _))) => if t = 4 then some (pc + 1, ls, .inl (mi_ra O a x.toNat h) :: r, O, [0 ≤ x ∧ x < (n : Int)]) else none
        | _ => none
      | _ => none
    | .i2b => match st with
      | .inl x :: r => some (pc + 1, ls, .inl x :: r, O, [-128 ≤ x ∧ x ≤ 127])
      | _ => none
    | .getfield _ => match st, rs with
      | .inr (.inr a) :: r, k :: z :: cs => if z ≠ 0 ∧ a < sm_C then (match sk[a]? with
        | some (some (.inr (ci, fl))) => if ci ∈ cs ∧ k < fl.length then (match fl[k]? with
          | some (t, lo, hi) => if t = 2 then some (pc + 3, ls, .inr (.inr lo.toNat) :: r, O, []) else if t = 0 ∧ lo = hi then some (pc + 3, ls, .inl lo :: r, O, []) else none
          | none => none) else none
        | _ => none) else none
      | _, _ => none
    | .caload => mi_ald 2 sk pc ls st h O
    | .ineg => match st with
      | .inl x :: r => some (pc + 1, ls, .inl (-x) :: r, O, [mi_in (-x)])
      | _ => none
    | .ldc _ => match rs with
      | [1, n] => some (pc + 2, ls, .inr (.inr n) :: st, O, [])
      | _ => none
    | .invokestatic _ => match rs with
      | [_, k] => match st with
        | .inl y :: .inl x :: r => if (r.map mi_cat).sum ≤ 8 then (if k = 0 then (if b = 1 then some (pc + 3, ls, .inl y :: r, O, [x < y]) else some (pc + 3, ls, .inl x :: r, O, [y ≤ x])) else (if b = 1 then some (pc + 3, ls, .inl y :: r, O, [y < x]) else some (pc + 3, ls, .inl x :: r, O, [x ≤ y]))) else none
        | _ => none
      | _ => none
    | _ => none
/-- a step at the machine itself -/
def mj_good (sk : ab_K) (q : sm_I) (pc : Nat) (ls : mi_L) (st : List mi_V) (h : sm_H) (O : List mi_U) (R : mi_R) : Prop :=
  sm_step q pc (mi_cl ls) (st.map mi_c) (mi_ap O h) = some (.inl (R.1, mi_cl R.2.1, R.2.2.1.map mi_c, mi_ap R.2.2.2.1 h)) ∧ R.2.2.2.1 = O ∧ mi_okL R.2.1 ∧ mi_okS R.2.2.1
section MJS
variable {sk : ab_K} {h : sm_H} {pc b : Nat} {ls : mi_L} {st : List mi_V} {O : List mi_U}
theorem mj_ak {a t n : Nat} {lo hi : Int} (hk : mo_ak sk a = some (t, n, lo, hi)) : sk[a]? = some (some (.inl (t, n, lo, hi, []))) ∧ sm_C ≤ a := by
  unfold mo_ak at hk
  split at hk
  · next t1 n1 lo1 hi1 ex1 he =>
    split at hk
    · next hc =>
      cases hk
      rw [hc.2] at he
      exact ⟨he, hc.1⟩
    · cases hk
  · cases hk
theorem mj_step_ok {q : sm_I} {R : mi_R} (hs : mj_step sk q pc ls st h O b = some R) (hP : mx_Sp sk h) (hO : mx_oO sk (O.map mi_cU)) (hS : ab_Sh sk (mi_ap O h)) (hl : mi_okL ls) (hst : mi_okS st) (hU : mi_okO O) (ho : ∀ p ∈ R.2.2.2.2, p) : mj_good sk q pc ls st h O R := by
  obtain ⟨i, len, rs⟩ := q
  unfold mj_step at hs
  dsimp only at hs
  split at hs
  · split at hs
    · next a r =>
      split at hs
      · next t n lo hi ex k1 =>
        split at hs
        · next hc =>
          cases hs
          have hh : ∃ c, (mi_ap O h)[a]? = some (.inl (t, n, c)) := by
            obtain ⟨c, e, -⟩ := hS _ _ k1
            exact ⟨c, e⟩
          obtain ⟨c, hh⟩ := hh
          refine ⟨?_, rfl, hl, mi_okS_cons ⟨by omega, by omega⟩ (mi_okS_tl hst)⟩
          simp only [sm_step, List.map_cons, mi_c]
          rw [hh]
          simp only
          rw [if_pos hc.1]
          rfl
        · cases hs
      · cases hs
    · cases hs
  · split at hs
    · next x a r =>
      split at hs
      · next t n lo hi ex k1 =>
        split at hs
        · next ht =>
          cases hs
          subst ht
          obtain ⟨f, hh, -⟩ := mx_arr hS k1 (by decide)
          have hx := mi_okS_hd hst
          have ob : 0 ≤ x ∧ x < (n : Int) := ho _ List.mem_cons_self
          have ef : f x.toNat = Int32.ofInt (mi_ra O a x.toNat h) := by
            have e1 : mx_a (mi_ap O h) a x.toNat = f x.toNat := by
              unfold mx_a
              rw [hh]
            rw [← e1]
            unfold mi_ap
            rw [mx_a_ap hP _ hO, mi_ra_eq]
          refine ⟨?_, rfl, hl, mi_okS_cons (mi_ra_in a x.toNat O hU) (mi_okS_tl (mi_okS_tl hst))⟩
          have hix : sm_ix (Int32.ofInt x) n = true := by
            unfold sm_ix
            rw [decide_eq_true_eq]
            have e1 := mi_ti hx
            have e2 := mi_tn hx
            refine ⟨fun c => ?_, by rw [e2]; omega⟩
            have := Int32.lt_iff_toInt_lt.mp c
            rw [e1] at this
            have e0 : (0 : Int32).toInt = 0 := rfl
            omega
          simp only [sm_step, sm_ald, List.map_cons, mi_c]
          rw [hh]
          simp only
          rw [if_neg (fun c => absurd c.1 (by decide)), if_pos ⟨trivial, hix, Or.inr (Or.inr trivial)⟩, mi_tn hx, ef]
          rfl
        · cases hs
      · cases hs
    · cases hs
  · split at hs
    · next x r =>
      cases hs
      have ob : -128 ≤ x ∧ x ≤ 127 := ho _ List.mem_cons_self
      have hx := mi_okS_hd hst
      refine ⟨?_, rfl, hl, mi_okS_cons hx (mi_okS_tl hst)⟩
      simp only [sm_step, List.map_cons, mi_c]
      have e : (Int32.ofInt x).toInt8.toInt32 = Int32.ofInt x := by
        apply Int32.toInt_inj.mp
        rw [Int8.toInt_toInt32, Int32.toInt_toInt8, mi_ti hx]
        exact Int.bmod_eq_of_le (by omega) (by omega)
      rw [e]
      rfl
    · cases hs
  · split at hs
    · next a r k z cs =>
      split at hs
      · next hz =>
        split at hs
        · next ci fl hk =>
          split at hs
          · next hci =>
            split at hs
            · next t lo hi hf =>
              obtain ⟨fs, hh, hlen, hfv⟩ := mx_obj hS hk
              have hfs : ∃ v, fs[k]? = some v := by
                have : k < fs.length := by omega
                exact ⟨_, List.getElem?_eq_getElem this⟩
              obtain ⟨v, hv⟩ := hfs
              have fv := hfv k _ v hf hv
              split at hs
              · next ht =>
                cases hs
                subst ht
                have fv : v = .ref lo.toNat := fv
                refine ⟨?_, rfl, hl, mi_okS_cons trivial (mi_okS_tl hst)⟩
                simp only [sm_step, sm_getf, List.map_cons, mi_c]
                rw [hh]
                simp only
                rw [if_pos ⟨hci.1, Or.inr ⟨hz.1, hz.2⟩⟩, hv, fv]
                rfl
              · split at hs
                · next ht =>
                  cases hs
                  obtain ⟨rfl, rfl⟩ := ht
                  obtain ⟨x, ex, x0, x1⟩ := fv
                  have ex2 : x = Int32.ofInt lo := by
                    apply Int32.toInt_inj.mp
                    have x0 : lo ≤ x.toInt := x0
                    have x1 : x.toInt ≤ lo := x1
                    have e3 : x.toInt = lo := by omega
                    have : mi_in lo := by rw [← e3]; exact mi_inT x
                    rw [mi_ti this, e3]
                  have hin : mi_in lo := by
                    have x0 : lo ≤ x.toInt := x0
                    have x1 : x.toInt ≤ lo := x1
                    have e3 : x.toInt = lo := by omega
                    rw [← e3]
                    exact mi_inT x
                  refine ⟨?_, rfl, hl, mi_okS_cons hin (mi_okS_tl hst)⟩
                  simp only [sm_step, sm_getf, List.map_cons, mi_c]
                  rw [hh]
                  simp only
                  rw [if_pos ⟨hci.1, Or.inr ⟨hz.1, hz.2⟩⟩, hv, ex, ex2]
                  rfl
                · cases hs
            · cases hs
          · cases hs
        · cases hs
      · cases hs
    · cases hs
  · unfold mi_ald at hs
    split at hs
    · next x a r =>
      split at hs
      · next t n lo hi hk =>
        split at hs
        · next ht =>
          cases hs
          subst ht
          obtain ⟨k1, k2⟩ := mj_ak hk
          obtain ⟨f, hh, -⟩ := mx_arr hS k1 (by decide)
          have hx := mi_okS_hd hst
          have ob : 0 ≤ x ∧ x < (n : Int) := ho _ List.mem_cons_self
          have ef : f x.toNat = Int32.ofInt (mi_ra O a x.toNat h) := by
            have e1 : mx_a (mi_ap O h) a x.toNat = f x.toNat := by
              unfold mx_a
              rw [hh]
            rw [← e1]
            unfold mi_ap
            rw [mx_a_ap hP _ hO, mi_ra_eq]
          refine ⟨?_, rfl, hl, mi_okS_cons (mi_ra_in a x.toNat O hU) (mi_okS_tl (mi_okS_tl hst))⟩
          simp only [sm_step, sm_ald, List.map_cons, mi_c]
          rw [hh]
          simp only
          have hix : sm_ix (Int32.ofInt x) n = true := by
            unfold sm_ix
            rw [decide_eq_true_eq]
            have e1 := mi_ti hx
            have e2 := mi_tn hx
            refine ⟨fun c => ?_, by rw [e2]; omega⟩
            have := Int32.lt_iff_toInt_lt.mp c
            rw [e1] at this
            have e0 : (0 : Int32).toInt = 0 := rfl
            omega
          rw [if_pos ⟨trivial, hix, Or.inl k2⟩, mi_tn hx, ef]
          rfl
        · cases hs
      · cases hs
    · cases hs
  · split at hs
    · next x r =>
      cases hs
      have ob : mi_in (-x) := ho _ List.mem_cons_self
      refine ⟨?_, rfl, hl, mi_okS_cons ob (mi_okS_tl hst)⟩
      simp only [sm_step, List.map_cons, mi_c]
      rw [Int32.ofInt_neg]
      rfl
    · cases hs
  · split at hs
    · next n =>
      cases hs
      exact ⟨rfl, rfl, hl, mi_okS_cons trivial hst⟩
    · cases hs
  · split at hs
    · next k0 k =>
      split at hs
      · next y x r =>
        split at hs
        · next hc =>
          have hy := mi_okS_hd hst
          have hx := mi_okS_hd (mi_okS_tl hst)
          have hr := mi_okS_tl (mi_okS_tl hst)
          have hcc : (((r.map mi_c).map fun v => v.category).sum ≤ 8) := by rw [mi_cats_eq]; exact hc
          have lt : (Int32.ofInt x < Int32.ofInt y) ↔ x < y := by rw [Int32.lt_iff_toInt_lt, mi_ti hx, mi_ti hy]
          have gt : (Int32.ofInt y < Int32.ofInt x) ↔ y < x := by rw [Int32.lt_iff_toInt_lt, mi_ti hx, mi_ti hy]
          split at hs
          · next hk =>
            subst hk
            split at hs
            · cases hs
              have ob : x < y := ho _ List.mem_cons_self
              refine ⟨?_, rfl, hl, mi_okS_cons hy hr⟩
              simp only [sm_step, List.map_cons, mi_c]
              rw [if_pos hcc, if_pos trivial, if_pos (lt.mpr ob)]
              rfl
            · cases hs
              have ob : y ≤ x := ho _ List.mem_cons_self
              refine ⟨?_, rfl, hl, mi_okS_cons hx hr⟩
              simp only [sm_step, List.map_cons, mi_c]
              rw [if_pos hcc, if_pos trivial, if_neg (fun c => by have := lt.mp c; omega)]
              rfl
          · next hk =>
            split at hs
            · cases hs
              have ob : y < x := ho _ List.mem_cons_self
              refine ⟨?_, rfl, hl, mi_okS_cons hy hr⟩
              simp only [sm_step, List.map_cons, mi_c]
              rw [if_pos hcc, if_neg hk, if_pos (gt.mpr ob)]
              rfl
            · cases hs
              have ob : x ≤ y := ho _ List.mem_cons_self
              refine ⟨?_, rfl, hl, mi_okS_cons hx hr⟩
              simp only [sm_step, List.map_cons, mi_c]
              rw [if_pos hcc, if_neg hk, if_neg (fun c => by have := gt.mp c; omega)]
              rfl
        · cases hs
      · cases hs
    · cases hs
  · cases hs
end MJS
/-- a call on any cell of a class -/
def mj_call (sk : ab_K) (q : sm_I) (st : List mi_V) : Option (Nat × List mi_V × List mi_V) := match q.1, q.2.2 with
  | .invokestatic _, [_, m, n] => match mi_args n st with
    | some (as, r) => some (m, as, r)
    | none => none
  | .invokevirtual _, _ :: n :: ps => match mi_args (n + 1) st with
    | some (.inr (.inr a) :: as, r) => match sk[a]? with
      | some (some (.inr (ci', _))) => match sm_pick ci' ps with
        | some m => some (m, .inr (.inr a) :: as, r)
        | none => none
      | _ => none
    | _ => none
  | _, _ => none
def mj_ret (q : sm_I) (k : Nat) (st : List mi_V) : Option (Option mi_V × List Prop) := match mi_ret q k st with
  | some R => some R
  | none => match q.1, st with
    | .ireturn, [.inl z] => if k = 5 then some (some (.inl z), [0 ≤ z ∧ z ≤ 65535]) else none
    | _, _ => none
def mj_br (q : sm_I) (b : Nat) : Bool := match q.1, q.2.2 with
  | .invokestatic _, [_, _] => true
  | _, _ => mi_br q b
def mj_path (T : mi_T) (sk : ab_K) (h : sm_H) : Nat → List Nat → mi_S → Option (mi_S × List Prop)
  | 0, _, S => some (S, [])
  | n + 1, bs, (d, m, pc, ls, st, O, F) => match mi_find T m with
    | none => none
    | some (_, k, tab) => match tab[pc]? with
      | some (some q) => match mi_step sk q pc ls st h O (bs.headD 0) with
        | some (pc', ls', st', O', ob) => mi_pre ob (mj_path T sk h n (if mj_br q (bs.headD 0) then bs.tail else bs) (d, m, pc', ls', st', O', F))
        | none => match mj_step sk q pc ls st h O (bs.headD 0) with
          | some (pc', ls', st', O', ob) => mi_pre ob (mj_path T sk h n (if mj_br q (bs.headD 0) then bs.tail else bs) (d, m, pc', ls', st', O', F))
          | none => match mj_call sk q st with
            | some (m', as, r) => match d, mi_find T m' with
              | d' + 1, some (nl, _, _) => if (mi_slots as).length ≤ nl ∧ (r.map mi_cat).sum ≤ 8 then mj_path T sk h n bs (d', m', 0, mi_entry nl as, [], O, (m, pc, ls, r) :: F) else none
              | _, _ => none
            | none => match mj_ret q k st, F with
              | some (rv, ob), f :: F' => mi_pre ob (mj_path T sk h n bs (d + 1, f.1, f.2.1 + 3, f.2.2.1, mi_back rv f.2.2.2, O, F'))
              | _, _ => none
      | _ => none
section MJQ
variable {sk : ab_K} {h : sm_H} {P : Nat → Option sm_M} {QT : Nat → sm_H → Prop} {Q : Option Value → sm_H → Prop} {T : mi_T}
theorem mj_call_ok {q : sm_I} {st as r : List mi_V} {m pc : Nat} {ls : sm_L} {H : sm_H} (hS : ab_Sh sk H) (hc : mj_call sk q st = some (m, as, r)) : sm_step q pc ls (st.map mi_c) H = some (.inr (.inr (m, as.map mi_c, r.map mi_c))) ∧ (mi_okS st → mi_okS as ∧ mi_okS r) := by
  obtain ⟨i, len, rs⟩ := q
  unfold mj_call at hc
  split at hc
  · next idx k m1 n hi hrs =>
    dsimp only at hi hrs
    subst hi
    subst hrs
    split at hc
    · next as1 r1 ha =>
      cases hc
      obtain ⟨e1, e2⟩ := mi_args_inv ha
      refine ⟨?_, e2⟩
      simp only [sm_step, sm_callS]
      rw [e1]
      rfl
    · cases hc
  · next idx k n ps hi hrs =>
    dsimp only at hi hrs
    subst hi
    subst hrs
    split at hc
    · next a as1 r1 ha =>
      split at hc
      · next ci' fl hk =>
        split at hc
        · next m1 hpk =>
          cases hc
          obtain ⟨e1, e2⟩ := mi_args_inv ha
          refine ⟨?_, e2⟩
          obtain ⟨fs, ho, -, -⟩ := mx_obj hS hk
          simp only [sm_step, sm_callV]
          rw [e1]
          simp only [List.map_cons, mi_c]
          rw [ho]
          simp only [hpk]
          rfl
        · cases hc
      · cases hc
    · cases hc
  · cases hc
theorem mj_ret_ok {q : sm_I} {k pc : Nat} {st : List mi_V} {rv : Option mi_V} {ob : List Prop} {ls : sm_L} {H : sm_H} (hr : mj_ret q k st = some (rv, ob)) (hst : mi_okS st) (ho : ∀ p ∈ ob, p) : sm_step q pc ls (st.map mi_c) H = some (.inr (.inl (rv.map mi_c))) ∧ sm_okret k (rv.map mi_c) = true ∧ ∀ v, rv = some v → mi_ok v := by
  unfold mj_ret at hr
  split at hr
  · next R hR =>
    cases hr
    exact mi_ret_ok hR hst ho
  · obtain ⟨i, len, rs⟩ := q
    split at hr
    · next z hi hn =>
      have hi : i = Instr.ireturn := hi
      subst hi
      split at hr
      · next hk =>
        cases hr
        subst hk
        have h1 : 0 ≤ z ∧ z ≤ 65535 := ho _ List.mem_cons_self
        have hz : mi_in z := ⟨by omega, by omega⟩
        refine ⟨rfl, ?_, fun v hv => by cases hv; exact hz⟩
        show decide ((0 : Int32) ≤ Int32.ofInt z ∧ Int32.ofInt z ≤ 65535) = true
        rw [decide_eq_true_eq]
        have e0 : (0 : Int32).toInt = 0 := rfl
        have e1 : (65535 : Int32).toInt = 65535 := rfl
        refine ⟨Int32.le_iff_toInt_le.mpr ?_, Int32.le_iff_toInt_le.mpr ?_⟩
        · rw [mi_ti hz]; omega
        · rw [mi_ti hz]; omega
      · cases hr
    · cases hr
set_option maxHeartbeats 1000000 in
theorem mj_path_ok (hT : ∀ e ∈ T, P e.1 = some e.2) (hP : mx_Sp sk h) : ∀ (n : Nat) (bs : List Nat) (S R : mi_S) (ob : List Prop), mj_path T sk h n bs S = some (R, ob) → mi_okA sk h S → (∀ p ∈ ob, p) → (mi_okA sk h R → mi_K P QT Q h R) → mi_K P QT Q h S := by
  intro n
  induction n with
  | zero =>
    intro bs S R ob hp hA ho hk
    simp only [mj_path] at hp
    cases hp
    exact hk hA
  | succ n ih =>
    intro bs S R ob hp hA ho hk
    obtain ⟨d, m, pc, ls, st, O, F⟩ := S
    obtain ⟨hS, hO, hl, hst, hU, hF⟩ := hA
    simp only [mj_path] at hp
    split at hp
    · cases hp
    · next nl k tab hfm =>
      have hM := hT _ (mi_find_mem T hfm)
      split at hp
      · next q hq =>
        split at hp
        · next pc' ls' st' O' ob1 hs =>
          obtain ⟨ob2, hp2, rfl⟩ := mi_pre_inv hp
          obtain ⟨⟨ob', hm, hob'⟩, g1, g2, g3⟩ := mi_step_ok hs hl hst hU (fun p hp => ho p (List.mem_append_left _ hp))
          obtain ⟨e1, e2, e3⟩ := mo_step_ok hm hP hO hS hob'
          exact ab_EndsK.step (M := (nl, k, tab)) hM hq e1 (ih _ _ _ _ hp2 ⟨e2, e3, g1, g2, g3, hF⟩ (fun p hp => ho p (List.mem_append_right _ hp)) hk)
        · split at hp
          · next pc' ls' st' O' ob1 hs =>
            obtain ⟨ob2, hp2, rfl⟩ := mi_pre_inv hp
            obtain ⟨e1, e2, g1, g2⟩ := mj_step_ok hs hP hO hS hl hst hU (fun p hp => ho p (List.mem_append_left _ hp))
            have e2 : O' = O := e2
            subst e2
            exact ab_EndsK.step (M := (nl, k, tab)) hM hq e1 (ih _ _ _ _ hp2 ⟨hS, hO, g1, g2, hU, hF⟩ (fun p hp => ho p (List.mem_append_right _ hp)) hk)
          · split at hp
            · next m' as r hc =>
              obtain ⟨e1, e2⟩ := mj_call_ok (pc := pc) (ls := mi_cl ls) hS hc
              obtain ⟨k1, k2⟩ := e2 hst
              split at hp
              · next d' nl' k' tab' hfm' =>
                split at hp
                · next hcc =>
                  have hM' := hT _ (mi_find_mem T hfm')
                  refine ab_EndsK.inl (M := (nl, k, tab)) (M' := (nl', k', tab')) hM hq e1 hM' (by rw [mi_slots_len]; exact hcc.1) (by rw [mi_cats_eq]; exact hcc.2) ?_
                  have := ih _ _ _ _ hp ⟨hS, hO, mi_entry_ok k1, (fun v hv => by cases hv), hU, fun f hf => by
                    rcases List.mem_cons.mp hf with rfl | hf
                    · exact ⟨hl, k2⟩
                    · exact hF f hf⟩ ho hk
                  rw [mi_entry_eq]
                  exact this
                · cases hp
              · cases hp
            · split at hp
              · next rv ob1 f F' hr =>
                obtain ⟨ob2, hp2, rfl⟩ := mi_pre_inv hp
                obtain ⟨e1, e2, e3⟩ := mj_ret_ok (pc := pc) (ls := mi_cl ls) (H := mi_ap O h) hr hst (fun p hp => ho p (List.mem_append_left _ hp))
                have hf := hF f List.mem_cons_self
                refine ab_EndsK.ret (c := mi_cF f) (M := (nl, k, tab)) hM hq e1 e2 ?_
                have := ih _ _ _ _ hp2 ⟨hS, hO, hf.1, mi_back_ok e3 hf.2, hU, fun g hg => hF g (List.mem_cons_of_mem _ hg)⟩ (fun p hp => ho p (List.mem_append_right _ hp)) hk
                show ab_EndsK P QT Q (F'.map mi_cF) (d + 1) f.1 (f.2.1 + 3) (mi_cl f.2.2.1) (sm_back (rv.map mi_c) (f.2.2.2.map mi_c)) (mi_ap O h)
                rw [mi_back_eq]
                exact this
              · cases hp
      · cases hp
end MJQ
section MJB
variable {d m pc : Nat} {ls : mi_L} {st : List mi_V} {h : sm_H} {Q Q' : Option mi_V → sm_H → Prop} {M M' : sm_M} {q : sm_I}
theorem mf_seg {T : mi_T} {n d' m' pc' : Nat} {bs : List Nat} {ls' : mi_L} {st' : List mi_V} {O : List mi_U} {ob : List Prop} (hp : mj_path T sx_sk h n bs (d, m, pc, ls, st, [], []) = some ((d', m', pc', ls', st', O, []), ob)) (hT : ∀ e ∈ T, sc_P e.1 = some e.2) (hS : ab_Sh sx_sk h) (hl : mi_okL ls) (hst : mi_okS st) (ho : ∀ p ∈ ob, p) (k : ∀ h', me_W O h h' → mi_okL ls' → mi_okS st' → me_E d' m' pc' ls' st' h' Q) : me_E d m pc ls st h Q := by
  have hP := mx_Sh_Sp hS
  have := mj_path_ok (P := sc_P) (QT := fun _ _ => False) (Q := fun v h' => ∃ w, v = w.map mi_c ∧ (∀ x, w = some x → mi_ok x) ∧ Q w h') hT hP n bs _ _ ob hp ⟨hS, (fun u hu => by cases hu), hl, hst, (fun u hu => by cases hu), (fun f hf => by cases hf)⟩ ho (fun hA => by
    obtain ⟨a1, a2, a3, a4, a5, -⟩ := hA
    exact Or.inl (k _ (me_W_ap hP a1 a2 a5) a3 a4))
  rcases this with this | ⟨n, x, h', -, hf⟩
  · exact this
  · exact hf.elim
theorem mf_call {m' : Nat} {as r : List mi_V} {Q1 : Option mi_V → sm_H → Prop} (hM : sc_P m = some M) (hq : M.2.2[pc]? = some (some q)) (hc : mj_call sx_sk q st = some (m', as, r)) (hM' : sc_P m' = some M') (hsl : (mi_slots as).length ≤ M'.1) (hcat : (r.map mi_cat).sum ≤ 8) (hS : ab_Sh sx_sk h) (k : me_E d m' 0 (mi_entry M'.1 as) [] h Q1) (kk : ∀ w h', (∀ x, w = some x → mi_ok x) → Q1 w h' → me_E (d + 1) m (pc + 3) ls (mi_back w r) h' Q) : me_E (d + 1) m pc ls st h Q := by
  obtain ⟨e1, -⟩ := mj_call_ok (pc := pc) (ls := mi_cl ls) hS hc
  refine ab_Ends.call hM hq e1 hM' (by rw [mi_slots_len]; exact hsl) (by rw [mi_cats_eq]; exact hcat) ?_
  rw [mi_entry_eq]
  refine ab_Ends.imp k (fun v h' hw => ?_)
  obtain ⟨w, rfl, hw, hQ⟩ := hw
  rw [mi_back_eq]
  exact kk w h' hw hQ
theorem mf_ret {rv : Option mi_V} {ob : List Prop} (hM : sc_P m = some M) (hq : M.2.2[pc]? = some (some q)) (hr : mj_ret q M.2.1 st = some (rv, ob)) (hst : mi_okS st) (ho : ∀ p ∈ ob, p) (hQ : Q rv h) : me_E d m pc ls st h Q := by
  obtain ⟨e1, e2, e3⟩ := mj_ret_ok (pc := pc) (ls := mi_cl ls) (H := h) hr hst ho
  exact ab_Ends.ret hM hq e1 e2 ⟨rv, rfl, e3, hQ⟩
end MJB
/-! segments of the class: Text -/
set_option maxRecDepth 20000 in
theorem mp_ctA_0 (h : sm_H) (d : Nat) (zk : Int) : mj_path [(20, (2, 5, sb_20))] sx_sk h 3 [1] (d, 20, 0, [some (.inr (.inr 52)), some (.inl (zk))], [], [], []) = some ((d, 20, 32, [some (.inr (.inr 52)), some (.inl (zk))], [.inl ((32 : Int))], [], []), [zk < ((0 : Int))]) := rfl
theorem mi_tab_ctA_0 : ∀ e ∈ ([(20, (2, 5, sb_20))] : mi_T), sc_P e.1 = some e.2 := mi_tb mi_P20 (mi_tb_e)
set_option maxRecDepth 20000 in
theorem ms_ctA_0 {h : sm_H} {d : Nat} {Q : Option mi_V → sm_H → Prop} {zk : Int} (hS : ab_Sh sx_sk h) (ok_zk : mi_in zk) (ho : (zk < ((0 : Int))) ∧ (0 ≤ ((32 : Int)) ∧ ((32 : Int)) ≤ 65535)) (kon : ∀ h1, me_W [] h h1 → Q (some (.inl ((32 : Int)))) h1) : me_E (d) 20 0 [some (.inr (.inr 52)), some (.inl (zk))] [] h Q := mf_seg (mp_ctA_0 h d zk) (mi_tab_ctA_0) hS (mi_okL_c (trivial) (mi_okL_c (ok_zk) (mi_okL_e))) (mi_okS_e) (mi_al (ho.1) (mi_al_e)) (fun h1 W _ hst => mf_ret (M := (2, 5, sb_20)) rfl rfl rfl hst (mi_al (ho.2) mi_al_e) (kon h1 W))
set_option maxRecDepth 20000 in
theorem mp_ctA_1 (h : sm_H) (d : Nat) (zk : Int) : mj_path [(20, (2, 5, sb_20))] sx_sk h 7 [0, 1] (d, 20, 0, [some (.inr (.inr 52)), some (.inl (zk))], [], [], []) = some ((d, 20, 32, [some (.inr (.inr 52)), some (.inl (zk))], [.inl ((32 : Int))], [], []), [((0 : Int)) ≤ zk, (mi_f h 6657) ≤ zk]) := rfl
theorem mi_tab_ctA_1 : ∀ e ∈ ([(20, (2, 5, sb_20))] : mi_T), sc_P e.1 = some e.2 := mi_tb mi_P20 (mi_tb_e)
set_option maxRecDepth 20000 in
theorem ms_ctA_1 {h : sm_H} {d : Nat} {Q : Option mi_V → sm_H → Prop} {zk : Int} (hS : ab_Sh sx_sk h) (ok_zk : mi_in zk) (ho : (((0 : Int)) ≤ zk) ∧ ((mi_f h 6657) ≤ zk) ∧ (0 ≤ ((32 : Int)) ∧ ((32 : Int)) ≤ 65535)) (kon : ∀ h1, me_W [] h h1 → Q (some (.inl ((32 : Int)))) h1) : me_E (d) 20 0 [some (.inr (.inr 52)), some (.inl (zk))] [] h Q := mf_seg (mp_ctA_1 h d zk) (mi_tab_ctA_1) hS (mi_okL_c (trivial) (mi_okL_c (ok_zk) (mi_okL_e))) (mi_okS_e) (mi_al (ho.1) (mi_al (ho.2.1) (mi_al_e))) (fun h1 W _ hst => mf_ret (M := (2, 5, sb_20)) rfl rfl rfl hst (mi_al (ho.2.2) mi_al_e) (kon h1 W))
set_option maxRecDepth 20000 in
theorem mp_ctA_2 (h : sm_H) (d : Nat) (zk : Int) : mj_path [(20, (2, 5, sb_20))] sx_sk h 12 [0, 0, 1] (d, 20, 0, [some (.inr (.inr 52)), some (.inl (zk))], [], [], []) = some ((d, 20, 32, [some (.inr (.inr 52)), some (.inl (zk))], [.inl ((32 : Int))], [], []), [((0 : Int)) ≤ zk, zk < (mi_f h 6657), ((240 : Int)) ≤ zk]) := rfl
theorem mi_tab_ctA_2 : ∀ e ∈ ([(20, (2, 5, sb_20))] : mi_T), sc_P e.1 = some e.2 := mi_tb mi_P20 (mi_tb_e)
set_option maxRecDepth 20000 in
theorem ms_ctA_2 {h : sm_H} {d : Nat} {Q : Option mi_V → sm_H → Prop} {zk : Int} (hS : ab_Sh sx_sk h) (ok_zk : mi_in zk) (ho : (((0 : Int)) ≤ zk) ∧ (zk < (mi_f h 6657)) ∧ (((240 : Int)) ≤ zk) ∧ (0 ≤ ((32 : Int)) ∧ ((32 : Int)) ≤ 65535)) (kon : ∀ h1, me_W [] h h1 → Q (some (.inl ((32 : Int)))) h1) : me_E (d) 20 0 [some (.inr (.inr 52)), some (.inl (zk))] [] h Q := mf_seg (mp_ctA_2 h d zk) (mi_tab_ctA_2) hS (mi_okL_c (trivial) (mi_okL_c (ok_zk) (mi_okL_e))) (mi_okS_e) (mi_al (ho.1) (mi_al (ho.2.1) (mi_al (ho.2.2.1) (mi_al_e)))) (fun h1 W _ hst => mf_ret (M := (2, 5, sb_20)) rfl rfl rfl hst (mi_al (ho.2.2.2) mi_al_e) (kon h1 W))
set_option maxRecDepth 20000 in
theorem mp_ctA_3 (h : sm_H) (d : Nat) (zk : Int) : mj_path [(20, (2, 5, sb_20))] sx_sk h 16 [0, 0, 0] (d, 20, 0, [some (.inr (.inr 52)), some (.inl (zk))], [], [], []) = some ((d, 20, 32, [some (.inr (.inr 52)), some (.inl (zk))], [.inl (mi_a h 53 (Int.toNat zk))], [], []), [((0 : Int)) ≤ zk, zk < (mi_f h 6657), zk < ((240 : Int)), 0 ≤ zk ∧ zk < 240]) := rfl
theorem mi_tab_ctA_3 : ∀ e ∈ ([(20, (2, 5, sb_20))] : mi_T), sc_P e.1 = some e.2 := mi_tb mi_P20 (mi_tb_e)
set_option maxRecDepth 20000 in
theorem ms_ctA_3 {h : sm_H} {d : Nat} {Q : Option mi_V → sm_H → Prop} {zk : Int} (hS : ab_Sh sx_sk h) (ok_zk : mi_in zk) (ho : (((0 : Int)) ≤ zk) ∧ (zk < (mi_f h 6657)) ∧ (zk < ((240 : Int))) ∧ (0 ≤ zk ∧ zk < 240) ∧ (0 ≤ (mi_a h 53 (Int.toNat zk)) ∧ (mi_a h 53 (Int.toNat zk)) ≤ 65535)) (kon : ∀ h1, me_W [] h h1 → Q (some (.inl (mi_a h 53 (Int.toNat zk)))) h1) : me_E (d) 20 0 [some (.inr (.inr 52)), some (.inl (zk))] [] h Q := mf_seg (mp_ctA_3 h d zk) (mi_tab_ctA_3) hS (mi_okL_c (trivial) (mi_okL_c (ok_zk) (mi_okL_e))) (mi_okS_e) (mi_al (ho.1) (mi_al (ho.2.1) (mi_al (ho.2.2.1) (mi_al (ho.2.2.2.1) (mi_al_e))))) (fun h1 W _ hst => mf_ret (M := (2, 5, sb_20)) rfl rfl rfl hst (mi_al (ho.2.2.2.2) mi_al_e) (kon h1 W))
set_option maxRecDepth 20000 in
theorem mt_ctA {h : sm_H} {d : Nat} {Q : Option mi_V → sm_H → Prop} {zk : Int} (hS : ab_Sh sx_sk h) (ok_zk : mi_in zk) (k0 : (zk < ((0 : Int))) → (∀ h1, ab_Sh sx_sk h1 → ab_Fr [] h h1 → Q (some (.inl ((32 : Int)))) h1)) (k1 : (0 ≤ mi_f h 6657 ∧ mi_f h 6657 ≤ 240) → (((0 : Int)) ≤ zk) → ((mi_f h 6657) ≤ zk) → (∀ h1, ab_Sh sx_sk h1 → ab_Fr [] h h1 → Q (some (.inl ((32 : Int)))) h1)) (k2 : (0 ≤ mi_f h 6657 ∧ mi_f h 6657 ≤ 240) → (((0 : Int)) ≤ zk) → (zk < (mi_f h 6657)) → (((240 : Int)) ≤ zk) → (∀ h1, ab_Sh sx_sk h1 → ab_Fr [] h h1 → Q (some (.inl ((32 : Int)))) h1)) (k3 : (0 ≤ mi_f h 6657 ∧ mi_f h 6657 ≤ 240) → (((0 : Int)) ≤ zk) → (zk < (mi_f h 6657)) → (zk < ((240 : Int))) → ((0 ≤ zk ∧ zk < 240) ∧ (0 ≤ (mi_a h 53 (Int.toNat zk)) ∧ (mi_a h 53 (Int.toNat zk)) ≤ 65535)) ∧ (∀ h1, ab_Sh sx_sk h1 → ab_Fr [] h h1 → Q (some (.inl (mi_a h 53 (Int.toNat zk)))) h1)) : me_E (d) 20 0 [some (.inr (.inr 52)), some (.inl (zk))] [] h Q := Or.elim (mi_em .lt (zk) (((0 : Int)))) (fun c0 => ms_ctA_0 hS ok_zk ⟨c0, (by decide)⟩ (fun h1 W => (k0 c0) h1 W.1 (W.2.2.2.2.2 _ rfl))) (fun c0 => Or.elim (mi_em .ge (zk) ((mi_f h 6657))) (fun c1 => ms_ctA_1 hS ok_zk ⟨c0, c1, (by decide)⟩ (fun h1 W => (k1 (me_fb hS rfl) c0 c1) h1 W.1 (W.2.2.2.2.2 _ rfl))) (fun c1 => Or.elim (mi_em .ge (zk) (((240 : Int)))) (fun c2 => ms_ctA_2 hS ok_zk ⟨c0, c1, c2, (by decide)⟩ (fun h1 W => (k2 (me_fb hS rfl) c0 c1 c2) h1 W.1 (W.2.2.2.2.2 _ rfl))) (fun c2 => ms_ctA_3 hS ok_zk ⟨c0, c1, c2, (k3 (me_fb hS rfl) c0 c1 c2).1.1, (k3 (me_fb hS rfl) c0 c1 c2).1.2⟩ (fun h1 W => (k3 (me_fb hS rfl) c0 c1 c2).2 h1 W.1 (W.2.2.2.2.2 _ rfl)))))
set_option maxRecDepth 20000 in
theorem mp_cbA_0 (h : sm_H) (d : Nat) (zf : Int) : mj_path [(19, (3, 1, sb_19))] sx_sk h 2 [] (d + 1, 19, 0, [some (.inr (.inr 52)), some (.inl (zf)), none], [], [], []) = some ((d + 1, 19, 2, [some (.inr (.inr 52)), some (.inl (zf)), some (.inl (zf))], [], [], []), []) := rfl
theorem mi_tab_cbA_0 : ∀ e ∈ ([(19, (3, 1, sb_19))] : mi_T), sc_P e.1 = some e.2 := mi_tb mi_P19 (mi_tb_e)
set_option maxRecDepth 20000 in
theorem ms_cbA_0 {h : sm_H} {d : Nat} {Q : Option mi_V → sm_H → Prop} {zf : Int} (hS : ab_Sh sx_sk h) (ok_zf : mi_in zf) (kon : ∀ h1, me_W [] h h1 → me_E (d + 1) 19 2 [some (.inr (.inr 52)), some (.inl (zf)), some (.inl (zf))] [] h1 Q) : me_E (d + 1) 19 0 [some (.inr (.inr 52)), some (.inl (zf)), none] [] h Q := mf_seg (mp_cbA_0 h d zf) (mi_tab_cbA_0) hS (mi_okL_c (trivial) (mi_okL_c (ok_zf) (mi_okL_n (mi_okL_e)))) (mi_okS_e) (mi_al_e) (fun h1 W _ hst => kon h1 W)
set_option maxRecDepth 20000 in
theorem mt_cbA {h : sm_H} {d : Nat} {Q : Option mi_V → sm_H → Prop} {zf : Int} (hS : ab_Sh sx_sk h) (ok_zf : mi_in zf) (k0 : (∀ h1, ab_Sh sx_sk h1 → ab_Fr [] h h1 → me_E (d + 1) 19 2 [some (.inr (.inr 52)), some (.inl (zf)), some (.inl (zf))] [] h1 Q)) : me_E (d + 1) 19 0 [some (.inr (.inr 52)), some (.inl (zf)), none] [] h Q := ms_cbA_0 hS ok_zf (fun h1 W => (k0) h1 W.1 (W.2.2.2.2.2 _ rfl))
set_option maxRecDepth 20000 in
theorem mp_cbB_0 (h : sm_H) (d : Nat) (zf zk : Int) : mj_path [(19, (3, 1, sb_19))] sx_sk h 5 [1] (d + 1, 19, 2, [some (.inr (.inr 52)), some (.inl (zf)), some (.inl (zk))], [], [], []) = some ((d + 1, 19, 28, [some (.inr (.inr 52)), some (.inl (zf)), some (.inl (zk))], [.inl (zk)], [], []), [(mi_f h 6657) ≤ zk]) := rfl
theorem mi_tab_cbB_0 : ∀ e ∈ ([(19, (3, 1, sb_19))] : mi_T), sc_P e.1 = some e.2 := mi_tb mi_P19 (mi_tb_e)
set_option maxRecDepth 20000 in
theorem ms_cbB_0 {h : sm_H} {d : Nat} {Q : Option mi_V → sm_H → Prop} {zf zk : Int} (hS : ab_Sh sx_sk h) (ok_zf : mi_in zf) (ok_zk : mi_in zk) (ho : ((mi_f h 6657) ≤ zk)) (kon : ∀ h1, me_W [] h h1 → Q (some (.inl (zk))) h1) : me_E (d + 1) 19 2 [some (.inr (.inr 52)), some (.inl (zf)), some (.inl (zk))] [] h Q := mf_seg (mp_cbB_0 h d zf zk) (mi_tab_cbB_0) hS (mi_okL_c (trivial) (mi_okL_c (ok_zf) (mi_okL_c (ok_zk) (mi_okL_e)))) (mi_okS_e) (mi_al (ho) (mi_al_e)) (fun h1 W _ hst => mf_ret (M := (3, 1, sb_19)) rfl rfl rfl hst (mi_al_e) (kon h1 W))
set_option maxRecDepth 20000 in
theorem mp_cbB_1 (h : sm_H) (d : Nat) (zf zk : Int) : mj_path [(19, (3, 1, sb_19))] sx_sk h 6 [0] (d + 1, 19, 2, [some (.inr (.inr 52)), some (.inl (zf)), some (.inl (zk))], [], [], []) = some ((d + 1, 19, 12, [some (.inr (.inr 52)), some (.inl (zf)), some (.inl (zk))], [.inl (zk), .inr (.inr 52)], [], []), [zk < (mi_f h 6657)]) := rfl
theorem mi_tab_cbB_1 : ∀ e ∈ ([(19, (3, 1, sb_19))] : mi_T), sc_P e.1 = some e.2 := mi_tb mi_P19 (mi_tb_e)
set_option maxRecDepth 20000 in
theorem ms_cbB_1 {h : sm_H} {d : Nat} {Q : Option mi_V → sm_H → Prop} {zf zk : Int} (hS : ab_Sh sx_sk h) (ok_zf : mi_in zf) (ok_zk : mi_in zk) (ho : (zk < (mi_f h 6657))) (kon : ∀ h1, me_W [] h h1 → ∃ Q1, me_E (d + 0) 20 0 (mi_entry 2 [.inr (.inr 52), .inl (zk)]) [] h1 Q1 ∧ ∀ w h2, (∀ x, w = some x → mi_ok x) → Q1 w h2 → me_E (d + 1) 19 15 [some (.inr (.inr 52)), some (.inl (zf)), some (.inl (zk))] (mi_back w []) h2 Q) : me_E (d + 1) 19 2 [some (.inr (.inr 52)), some (.inl (zf)), some (.inl (zk))] [] h Q := mf_seg (mp_cbB_1 h d zf zk) (mi_tab_cbB_1) hS (mi_okL_c (trivial) (mi_okL_c (ok_zf) (mi_okL_c (ok_zk) (mi_okL_e)))) (mi_okS_e) (mi_al (ho) (mi_al_e)) (fun h1 W _ hst => let ⟨_, k1, k2⟩ := kon h1 W; mf_call (M := (3, 1, sb_19)) (M' := (2, 5, sb_20)) rfl rfl rfl rfl (Nat.le_of_ble_eq_true rfl) (Nat.le_of_ble_eq_true rfl) W.1 k1 k2)
set_option maxRecDepth 20000 in
theorem mt_cbB {h : sm_H} {d : Nat} {Q : Option mi_V → sm_H → Prop} {zf zk : Int} (hS : ab_Sh sx_sk h) (ok_zf : mi_in zf) (ok_zk : mi_in zk) (k0 : (0 ≤ mi_f h 6657 ∧ mi_f h 6657 ≤ 240) → ((mi_f h 6657) ≤ zk) → (∀ h1, ab_Sh sx_sk h1 → ab_Fr [] h h1 → Q (some (.inl (zk))) h1)) (k1 : (0 ≤ mi_f h 6657 ∧ mi_f h 6657 ≤ 240) → (zk < (mi_f h 6657)) → (∀ h1, ab_Sh sx_sk h1 → ab_Fr [] h h1 → ∃ Q1, me_E (d + 0) 20 0 (mi_entry 2 [.inr (.inr 52), .inl (zk)]) [] h1 Q1 ∧ ∀ w h2, (∀ x, w = some x → mi_ok x) → Q1 w h2 → me_E (d + 1) 19 15 [some (.inr (.inr 52)), some (.inl (zf)), some (.inl (zk))] (mi_back w []) h2 Q)) : me_E (d + 1) 19 2 [some (.inr (.inr 52)), some (.inl (zf)), some (.inl (zk))] [] h Q := Or.elim (mi_em .ge (zk) ((mi_f h 6657))) (fun c0 => ms_cbB_0 hS ok_zf ok_zk (c0) (fun h1 W => (k0 (me_fb hS rfl) c0) h1 W.1 (W.2.2.2.2.2 _ rfl))) (fun c0 => ms_cbB_1 hS ok_zf ok_zk (c0) (fun h1 W => (k1 (me_fb hS rfl) c0) h1 W.1 (W.2.2.2.2.2 _ rfl)))
set_option maxRecDepth 20000 in
theorem mp_cbC_0 (h : sm_H) (d : Nat) (zf zk zz : Int) : mj_path [(19, (3, 1, sb_19)), (21, (1, 4, sb_21))] sx_sk h 10 [1, 0] (d + 1, 19, 15, [some (.inr (.inr 52)), some (.inl (zf)), some (.inl (zk))], [.inl (zz)], [], []) = some ((d + 1, 19, 2, [some (.inr (.inr 52)), some (.inl (zf)), some (.inl (zk + 1))], [], [], []), [zz = ((32 : Int)), ((1 : Int)) = 0 ∨ ((1 : Int)) = 1, ((1 : Int)) ≠ ((0 : Int)), -2147483648 ≤ zk + 1 ∧ zk + 1 ≤ 2147483647]) := rfl
theorem mi_tab_cbC_0 : ∀ e ∈ ([(19, (3, 1, sb_19)), (21, (1, 4, sb_21))] : mi_T), sc_P e.1 = some e.2 := mi_tb mi_P19 (mi_tb mi_P21 (mi_tb_e))
set_option maxRecDepth 20000 in
theorem ms_cbC_0 {h : sm_H} {d : Nat} {Q : Option mi_V → sm_H → Prop} {zf zk zz : Int} (hS : ab_Sh sx_sk h) (ok_zf : mi_in zf) (ok_zk : mi_in zk) (ok_zz : mi_in zz) (ho : (zz = ((32 : Int))) ∧ (((1 : Int)) = 0 ∨ ((1 : Int)) = 1) ∧ (((1 : Int)) ≠ ((0 : Int))) ∧ (-2147483648 ≤ zk + 1 ∧ zk + 1 ≤ 2147483647)) (kon : ∀ h1, me_W [] h h1 → me_E (d + 1) 19 2 [some (.inr (.inr 52)), some (.inl (zf)), some (.inl (zk + 1))] [] h1 Q) : me_E (d + 1) 19 15 [some (.inr (.inr 52)), some (.inl (zf)), some (.inl (zk))] [.inl (zz)] h Q := mf_seg (mp_cbC_0 h d zf zk zz) (mi_tab_cbC_0) hS (mi_okL_c (trivial) (mi_okL_c (ok_zf) (mi_okL_c (ok_zk) (mi_okL_e)))) (mi_okS_cons (ok_zz) (mi_okS_e)) (mi_al (ho.1) (mi_al (ho.2.1) (mi_al (ho.2.2.1) (mi_al (ho.2.2.2) (mi_al_e))))) (fun h1 W _ hst => kon h1 W)
set_option maxRecDepth 20000 in
theorem mp_cbC_1 (h : sm_H) (d : Nat) (zf zk zz : Int) : mj_path [(19, (3, 1, sb_19)), (21, (1, 4, sb_21))] sx_sk h 11 [0, 1, 1] (d + 1, 19, 15, [some (.inr (.inr 52)), some (.inl (zf)), some (.inl (zk))], [.inl (zz)], [], []) = some ((d + 1, 19, 28, [some (.inr (.inr 52)), some (.inl (zf)), some (.inl (zk))], [.inl (zk)], [], []), [zz ≠ ((32 : Int)), zz ≠ ((10 : Int)), ((0 : Int)) = 0 ∨ ((0 : Int)) = 1, ((0 : Int)) = ((0 : Int))]) := rfl
theorem mi_tab_cbC_1 : ∀ e ∈ ([(19, (3, 1, sb_19)), (21, (1, 4, sb_21))] : mi_T), sc_P e.1 = some e.2 := mi_tb mi_P19 (mi_tb mi_P21 (mi_tb_e))
set_option maxRecDepth 20000 in
theorem ms_cbC_1 {h : sm_H} {d : Nat} {Q : Option mi_V → sm_H → Prop} {zf zk zz : Int} (hS : ab_Sh sx_sk h) (ok_zf : mi_in zf) (ok_zk : mi_in zk) (ok_zz : mi_in zz) (ho : (zz ≠ ((32 : Int))) ∧ (zz ≠ ((10 : Int))) ∧ (((0 : Int)) = 0 ∨ ((0 : Int)) = 1) ∧ (((0 : Int)) = ((0 : Int)))) (kon : ∀ h1, me_W [] h h1 → Q (some (.inl (zk))) h1) : me_E (d + 1) 19 15 [some (.inr (.inr 52)), some (.inl (zf)), some (.inl (zk))] [.inl (zz)] h Q := mf_seg (mp_cbC_1 h d zf zk zz) (mi_tab_cbC_1) hS (mi_okL_c (trivial) (mi_okL_c (ok_zf) (mi_okL_c (ok_zk) (mi_okL_e)))) (mi_okS_cons (ok_zz) (mi_okS_e)) (mi_al (ho.1) (mi_al (ho.2.1) (mi_al (ho.2.2.1) (mi_al (ho.2.2.2) (mi_al_e))))) (fun h1 W _ hst => mf_ret (M := (3, 1, sb_19)) rfl rfl rfl hst (mi_al_e) (kon h1 W))
set_option maxRecDepth 20000 in
theorem mp_cbC_2 (h : sm_H) (d : Nat) (zf zk zz : Int) : mj_path [(19, (3, 1, sb_19)), (21, (1, 4, sb_21))] sx_sk h 13 [0, 0, 0] (d + 1, 19, 15, [some (.inr (.inr 52)), some (.inl (zf)), some (.inl (zk))], [.inl (zz)], [], []) = some ((d + 1, 19, 2, [some (.inr (.inr 52)), some (.inl (zf)), some (.inl (zk + 1))], [], [], []), [zz ≠ ((32 : Int)), zz = ((10 : Int)), ((1 : Int)) = 0 ∨ ((1 : Int)) = 1, ((1 : Int)) ≠ ((0 : Int)), -2147483648 ≤ zk + 1 ∧ zk + 1 ≤ 2147483647]) := rfl
theorem mi_tab_cbC_2 : ∀ e ∈ ([(19, (3, 1, sb_19)), (21, (1, 4, sb_21))] : mi_T), sc_P e.1 = some e.2 := mi_tb mi_P19 (mi_tb mi_P21 (mi_tb_e))
set_option maxRecDepth 20000 in
theorem ms_cbC_2 {h : sm_H} {d : Nat} {Q : Option mi_V → sm_H → Prop} {zf zk zz : Int} (hS : ab_Sh sx_sk h) (ok_zf : mi_in zf) (ok_zk : mi_in zk) (ok_zz : mi_in zz) (ho : (zz ≠ ((32 : Int))) ∧ (zz = ((10 : Int))) ∧ (((1 : Int)) = 0 ∨ ((1 : Int)) = 1) ∧ (((1 : Int)) ≠ ((0 : Int))) ∧ (-2147483648 ≤ zk + 1 ∧ zk + 1 ≤ 2147483647)) (kon : ∀ h1, me_W [] h h1 → me_E (d + 1) 19 2 [some (.inr (.inr 52)), some (.inl (zf)), some (.inl (zk + 1))] [] h1 Q) : me_E (d + 1) 19 15 [some (.inr (.inr 52)), some (.inl (zf)), some (.inl (zk))] [.inl (zz)] h Q := mf_seg (mp_cbC_2 h d zf zk zz) (mi_tab_cbC_2) hS (mi_okL_c (trivial) (mi_okL_c (ok_zf) (mi_okL_c (ok_zk) (mi_okL_e)))) (mi_okS_cons (ok_zz) (mi_okS_e)) (mi_al (ho.1) (mi_al (ho.2.1) (mi_al (ho.2.2.1) (mi_al (ho.2.2.2.1) (mi_al (ho.2.2.2.2) (mi_al_e)))))) (fun h1 W _ hst => kon h1 W)
set_option maxRecDepth 20000 in
theorem mt_cbC {h : sm_H} {d : Nat} {Q : Option mi_V → sm_H → Prop} {zf zk zz : Int} (hS : ab_Sh sx_sk h) (ok_zf : mi_in zf) (ok_zk : mi_in zk) (ok_zz : mi_in zz) (k0 : (zz = ((32 : Int))) → ((-2147483648 ≤ zk + 1 ∧ zk + 1 ≤ 2147483647)) ∧ (∀ h1, ab_Sh sx_sk h1 → ab_Fr [] h h1 → me_E (d + 1) 19 2 [some (.inr (.inr 52)), some (.inl (zf)), some (.inl (zk + 1))] [] h1 Q)) (k1 : (zz ≠ ((32 : Int))) → (zz ≠ ((10 : Int))) → (∀ h1, ab_Sh sx_sk h1 → ab_Fr [] h h1 → Q (some (.inl (zk))) h1)) (k2 : (zz ≠ ((32 : Int))) → (zz = ((10 : Int))) → ((-2147483648 ≤ zk + 1 ∧ zk + 1 ≤ 2147483647)) ∧ (∀ h1, ab_Sh sx_sk h1 → ab_Fr [] h h1 → me_E (d + 1) 19 2 [some (.inr (.inr 52)), some (.inl (zf)), some (.inl (zk + 1))] [] h1 Q)) : me_E (d + 1) 19 15 [some (.inr (.inr 52)), some (.inl (zf)), some (.inl (zk))] [.inl (zz)] h Q := Or.elim (mi_em .eq (zz) (((32 : Int)))) (fun c0 => ms_cbC_0 hS ok_zf ok_zk ok_zz ⟨c0, (by decide), (by decide), (k0 c0).1⟩ (fun h1 W => (k0 c0).2 h1 W.1 (W.2.2.2.2.2 _ rfl))) (fun c0 => Or.elim (mi_em .ne (zz) (((10 : Int)))) (fun c1 => ms_cbC_1 hS ok_zf ok_zk ok_zz ⟨c0, c1, (by decide), (by decide)⟩ (fun h1 W => (k1 c0 c1) h1 W.1 (W.2.2.2.2.2 _ rfl))) (fun c1 => ms_cbC_2 hS ok_zf ok_zk ok_zz ⟨c0, c1, (by decide), (by decide), (k2 c0 c1).1⟩ (fun h1 W => (k2 c0 c1).2 h1 W.1 (W.2.2.2.2.2 _ rfl))))
set_option maxRecDepth 20000 in
theorem mp_clA_0 (h : sm_H) (d : Nat) (zf : Int) : mj_path [(25, (3, 1, sb_25))] sx_sk h 2 [] (d + 1, 25, 0, [some (.inr (.inr 52)), some (.inl (zf)), none], [], [], []) = some ((d + 1, 25, 2, [some (.inr (.inr 52)), some (.inl (zf)), some (.inl (zf))], [], [], []), []) := rfl
theorem mi_tab_clA_0 : ∀ e ∈ ([(25, (3, 1, sb_25))] : mi_T), sc_P e.1 = some e.2 := mi_tb mi_P25 (mi_tb_e)
set_option maxRecDepth 20000 in
theorem ms_clA_0 {h : sm_H} {d : Nat} {Q : Option mi_V → sm_H → Prop} {zf : Int} (hS : ab_Sh sx_sk h) (ok_zf : mi_in zf) (kon : ∀ h1, me_W [] h h1 → me_E (d + 1) 25 2 [some (.inr (.inr 52)), some (.inl (zf)), some (.inl (zf))] [] h1 Q) : me_E (d + 1) 25 0 [some (.inr (.inr 52)), some (.inl (zf)), none] [] h Q := mf_seg (mp_clA_0 h d zf) (mi_tab_clA_0) hS (mi_okL_c (trivial) (mi_okL_c (ok_zf) (mi_okL_n (mi_okL_e)))) (mi_okS_e) (mi_al_e) (fun h1 W _ hst => kon h1 W)
set_option maxRecDepth 20000 in
theorem mt_clA {h : sm_H} {d : Nat} {Q : Option mi_V → sm_H → Prop} {zf : Int} (hS : ab_Sh sx_sk h) (ok_zf : mi_in zf) (k0 : (∀ h1, ab_Sh sx_sk h1 → ab_Fr [] h h1 → me_E (d + 1) 25 2 [some (.inr (.inr 52)), some (.inl (zf)), some (.inl (zf))] [] h1 Q)) : me_E (d + 1) 25 0 [some (.inr (.inr 52)), some (.inl (zf)), none] [] h Q := ms_clA_0 hS ok_zf (fun h1 W => (k0) h1 W.1 (W.2.2.2.2.2 _ rfl))
set_option maxRecDepth 20000 in
theorem mp_clB_0 (h : sm_H) (d : Nat) (zf zk : Int) : mj_path [(25, (3, 1, sb_25))] sx_sk h 5 [1] (d + 1, 25, 2, [some (.inr (.inr 52)), some (.inl (zf)), some (.inl (zk))], [], [], []) = some ((d + 1, 25, 28, [some (.inr (.inr 52)), some (.inl (zf)), some (.inl (zk))], [.inl (zk)], [], []), [(mi_f h 6657) ≤ zk]) := rfl
theorem mi_tab_clB_0 : ∀ e ∈ ([(25, (3, 1, sb_25))] : mi_T), sc_P e.1 = some e.2 := mi_tb mi_P25 (mi_tb_e)
set_option maxRecDepth 20000 in
theorem ms_clB_0 {h : sm_H} {d : Nat} {Q : Option mi_V → sm_H → Prop} {zf zk : Int} (hS : ab_Sh sx_sk h) (ok_zf : mi_in zf) (ok_zk : mi_in zk) (ho : ((mi_f h 6657) ≤ zk)) (kon : ∀ h1, me_W [] h h1 → Q (some (.inl (zk))) h1) : me_E (d + 1) 25 2 [some (.inr (.inr 52)), some (.inl (zf)), some (.inl (zk))] [] h Q := mf_seg (mp_clB_0 h d zf zk) (mi_tab_clB_0) hS (mi_okL_c (trivial) (mi_okL_c (ok_zf) (mi_okL_c (ok_zk) (mi_okL_e)))) (mi_okS_e) (mi_al (ho) (mi_al_e)) (fun h1 W _ hst => mf_ret (M := (3, 1, sb_25)) rfl rfl rfl hst (mi_al_e) (kon h1 W))
set_option maxRecDepth 20000 in
theorem mp_clB_1 (h : sm_H) (d : Nat) (zf zk : Int) : mj_path [(25, (3, 1, sb_25))] sx_sk h 6 [0] (d + 1, 25, 2, [some (.inr (.inr 52)), some (.inl (zf)), some (.inl (zk))], [], [], []) = some ((d + 1, 25, 12, [some (.inr (.inr 52)), some (.inl (zf)), some (.inl (zk))], [.inl (zk), .inr (.inr 52)], [], []), [zk < (mi_f h 6657)]) := rfl
theorem mi_tab_clB_1 : ∀ e ∈ ([(25, (3, 1, sb_25))] : mi_T), sc_P e.1 = some e.2 := mi_tb mi_P25 (mi_tb_e)
set_option maxRecDepth 20000 in
theorem ms_clB_1 {h : sm_H} {d : Nat} {Q : Option mi_V → sm_H → Prop} {zf zk : Int} (hS : ab_Sh sx_sk h) (ok_zf : mi_in zf) (ok_zk : mi_in zk) (ho : (zk < (mi_f h 6657))) (kon : ∀ h1, me_W [] h h1 → ∃ Q1, me_E (d + 0) 20 0 (mi_entry 2 [.inr (.inr 52), .inl (zk)]) [] h1 Q1 ∧ ∀ w h2, (∀ x, w = some x → mi_ok x) → Q1 w h2 → me_E (d + 1) 25 15 [some (.inr (.inr 52)), some (.inl (zf)), some (.inl (zk))] (mi_back w []) h2 Q) : me_E (d + 1) 25 2 [some (.inr (.inr 52)), some (.inl (zf)), some (.inl (zk))] [] h Q := mf_seg (mp_clB_1 h d zf zk) (mi_tab_clB_1) hS (mi_okL_c (trivial) (mi_okL_c (ok_zf) (mi_okL_c (ok_zk) (mi_okL_e)))) (mi_okS_e) (mi_al (ho) (mi_al_e)) (fun h1 W _ hst => let ⟨_, k1, k2⟩ := kon h1 W; mf_call (M := (3, 1, sb_25)) (M' := (2, 5, sb_20)) rfl rfl rfl rfl (Nat.le_of_ble_eq_true rfl) (Nat.le_of_ble_eq_true rfl) W.1 k1 k2)
set_option maxRecDepth 20000 in
theorem mt_clB {h : sm_H} {d : Nat} {Q : Option mi_V → sm_H → Prop} {zf zk : Int} (hS : ab_Sh sx_sk h) (ok_zf : mi_in zf) (ok_zk : mi_in zk) (k0 : (0 ≤ mi_f h 6657 ∧ mi_f h 6657 ≤ 240) → ((mi_f h 6657) ≤ zk) → (∀ h1, ab_Sh sx_sk h1 → ab_Fr [] h h1 → Q (some (.inl (zk))) h1)) (k1 : (0 ≤ mi_f h 6657 ∧ mi_f h 6657 ≤ 240) → (zk < (mi_f h 6657)) → (∀ h1, ab_Sh sx_sk h1 → ab_Fr [] h h1 → ∃ Q1, me_E (d + 0) 20 0 (mi_entry 2 [.inr (.inr 52), .inl (zk)]) [] h1 Q1 ∧ ∀ w h2, (∀ x, w = some x → mi_ok x) → Q1 w h2 → me_E (d + 1) 25 15 [some (.inr (.inr 52)), some (.inl (zf)), some (.inl (zk))] (mi_back w []) h2 Q)) : me_E (d + 1) 25 2 [some (.inr (.inr 52)), some (.inl (zf)), some (.inl (zk))] [] h Q := Or.elim (mi_em .ge (zk) ((mi_f h 6657))) (fun c0 => ms_clB_0 hS ok_zf ok_zk (c0) (fun h1 W => (k0 (me_fb hS rfl) c0) h1 W.1 (W.2.2.2.2.2 _ rfl))) (fun c0 => ms_clB_1 hS ok_zf ok_zk (c0) (fun h1 W => (k1 (me_fb hS rfl) c0) h1 W.1 (W.2.2.2.2.2 _ rfl)))
set_option maxRecDepth 20000 in
theorem mp_clC_0 (h : sm_H) (d : Nat) (zf zk zz : Int) : mj_path [(25, (3, 1, sb_25)), (23, (1, 4, sb_23))] sx_sk h 8 [1, 1] (d + 1, 25, 15, [some (.inr (.inr 52)), some (.inl (zf)), some (.inl (zk))], [.inl (zz)], [], []) = some ((d + 1, 25, 28, [some (.inr (.inr 52)), some (.inl (zf)), some (.inl (zk))], [.inl (zk)], [], []), [zz < ((97 : Int)), ((0 : Int)) = 0 ∨ ((0 : Int)) = 1, ((0 : Int)) = ((0 : Int))]) := rfl
theorem mi_tab_clC_0 : ∀ e ∈ ([(25, (3, 1, sb_25)), (23, (1, 4, sb_23))] : mi_T), sc_P e.1 = some e.2 := mi_tb mi_P25 (mi_tb mi_P23 (mi_tb_e))
set_option maxRecDepth 20000 in
theorem ms_clC_0 {h : sm_H} {d : Nat} {Q : Option mi_V → sm_H → Prop} {zf zk zz : Int} (hS : ab_Sh sx_sk h) (ok_zf : mi_in zf) (ok_zk : mi_in zk) (ok_zz : mi_in zz) (ho : (zz < ((97 : Int))) ∧ (((0 : Int)) = 0 ∨ ((0 : Int)) = 1) ∧ (((0 : Int)) = ((0 : Int)))) (kon : ∀ h1, me_W [] h h1 → Q (some (.inl (zk))) h1) : me_E (d + 1) 25 15 [some (.inr (.inr 52)), some (.inl (zf)), some (.inl (zk))] [.inl (zz)] h Q := mf_seg (mp_clC_0 h d zf zk zz) (mi_tab_clC_0) hS (mi_okL_c (trivial) (mi_okL_c (ok_zf) (mi_okL_c (ok_zk) (mi_okL_e)))) (mi_okS_cons (ok_zz) (mi_okS_e)) (mi_al (ho.1) (mi_al (ho.2.1) (mi_al (ho.2.2) (mi_al_e)))) (fun h1 W _ hst => mf_ret (M := (3, 1, sb_25)) rfl rfl rfl hst (mi_al_e) (kon h1 W))
set_option maxRecDepth 20000 in
theorem mp_clC_1 (h : sm_H) (d : Nat) (zf zk zz : Int) : mj_path [(25, (3, 1, sb_25)), (23, (1, 4, sb_23))] sx_sk h 11 [0, 1, 1] (d + 1, 25, 15, [some (.inr (.inr 52)), some (.inl (zf)), some (.inl (zk))], [.inl (zz)], [], []) = some ((d + 1, 25, 28, [some (.inr (.inr 52)), some (.inl (zf)), some (.inl (zk))], [.inl (zk)], [], []), [((97 : Int)) ≤ zz, ((122 : Int)) < zz, ((0 : Int)) = 0 ∨ ((0 : Int)) = 1, ((0 : Int)) = ((0 : Int))]) := rfl
theorem mi_tab_clC_1 : ∀ e ∈ ([(25, (3, 1, sb_25)), (23, (1, 4, sb_23))] : mi_T), sc_P e.1 = some e.2 := mi_tb mi_P25 (mi_tb mi_P23 (mi_tb_e))
set_option maxRecDepth 20000 in
theorem ms_clC_1 {h : sm_H} {d : Nat} {Q : Option mi_V → sm_H → Prop} {zf zk zz : Int} (hS : ab_Sh sx_sk h) (ok_zf : mi_in zf) (ok_zk : mi_in zk) (ok_zz : mi_in zz) (ho : (((97 : Int)) ≤ zz) ∧ (((122 : Int)) < zz) ∧ (((0 : Int)) = 0 ∨ ((0 : Int)) = 1) ∧ (((0 : Int)) = ((0 : Int)))) (kon : ∀ h1, me_W [] h h1 → Q (some (.inl (zk))) h1) : me_E (d + 1) 25 15 [some (.inr (.inr 52)), some (.inl (zf)), some (.inl (zk))] [.inl (zz)] h Q := mf_seg (mp_clC_1 h d zf zk zz) (mi_tab_clC_1) hS (mi_okL_c (trivial) (mi_okL_c (ok_zf) (mi_okL_c (ok_zk) (mi_okL_e)))) (mi_okS_cons (ok_zz) (mi_okS_e)) (mi_al (ho.1) (mi_al (ho.2.1) (mi_al (ho.2.2.1) (mi_al (ho.2.2.2) (mi_al_e))))) (fun h1 W _ hst => mf_ret (M := (3, 1, sb_25)) rfl rfl rfl hst (mi_al_e) (kon h1 W))
set_option maxRecDepth 20000 in
theorem mp_clC_2 (h : sm_H) (d : Nat) (zf zk zz : Int) : mj_path [(25, (3, 1, sb_25)), (23, (1, 4, sb_23))] sx_sk h 13 [0, 0, 0] (d + 1, 25, 15, [some (.inr (.inr 52)), some (.inl (zf)), some (.inl (zk))], [.inl (zz)], [], []) = some ((d + 1, 25, 2, [some (.inr (.inr 52)), some (.inl (zf)), some (.inl (zk + 1))], [], [], []), [((97 : Int)) ≤ zz, zz ≤ ((122 : Int)), ((1 : Int)) = 0 ∨ ((1 : Int)) = 1, ((1 : Int)) ≠ ((0 : Int)), -2147483648 ≤ zk + 1 ∧ zk + 1 ≤ 2147483647]) := rfl
theorem mi_tab_clC_2 : ∀ e ∈ ([(25, (3, 1, sb_25)), (23, (1, 4, sb_23))] : mi_T), sc_P e.1 = some e.2 := mi_tb mi_P25 (mi_tb mi_P23 (mi_tb_e))
set_option maxRecDepth 20000 in
theorem ms_clC_2 {h : sm_H} {d : Nat} {Q : Option mi_V → sm_H → Prop} {zf zk zz : Int} (hS : ab_Sh sx_sk h) (ok_zf : mi_in zf) (ok_zk : mi_in zk) (ok_zz : mi_in zz) (ho : (((97 : Int)) ≤ zz) ∧ (zz ≤ ((122 : Int))) ∧ (((1 : Int)) = 0 ∨ ((1 : Int)) = 1) ∧ (((1 : Int)) ≠ ((0 : Int))) ∧ (-2147483648 ≤ zk + 1 ∧ zk + 1 ≤ 2147483647)) (kon : ∀ h1, me_W [] h h1 → me_E (d + 1) 25 2 [some (.inr (.inr 52)), some (.inl (zf)), some (.inl (zk + 1))] [] h1 Q) : me_E (d + 1) 25 15 [some (.inr (.inr 52)), some (.inl (zf)), some (.inl (zk))] [.inl (zz)] h Q := mf_seg (mp_clC_2 h d zf zk zz) (mi_tab_clC_2) hS (mi_okL_c (trivial) (mi_okL_c (ok_zf) (mi_okL_c (ok_zk) (mi_okL_e)))) (mi_okS_cons (ok_zz) (mi_okS_e)) (mi_al (ho.1) (mi_al (ho.2.1) (mi_al (ho.2.2.1) (mi_al (ho.2.2.2.1) (mi_al (ho.2.2.2.2) (mi_al_e)))))) (fun h1 W _ hst => kon h1 W)
set_option maxRecDepth 20000 in
theorem mt_clC {h : sm_H} {d : Nat} {Q : Option mi_V → sm_H → Prop} {zf zk zz : Int} (hS : ab_Sh sx_sk h) (ok_zf : mi_in zf) (ok_zk : mi_in zk) (ok_zz : mi_in zz) (k0 : (zz < ((97 : Int))) → (∀ h1, ab_Sh sx_sk h1 → ab_Fr [] h h1 → Q (some (.inl (zk))) h1)) (k1 : (((97 : Int)) ≤ zz) → (((122 : Int)) < zz) → (∀ h1, ab_Sh sx_sk h1 → ab_Fr [] h h1 → Q (some (.inl (zk))) h1)) (k2 : (((97 : Int)) ≤ zz) → (zz ≤ ((122 : Int))) → ((-2147483648 ≤ zk + 1 ∧ zk + 1 ≤ 2147483647)) ∧ (∀ h1, ab_Sh sx_sk h1 → ab_Fr [] h h1 → me_E (d + 1) 25 2 [some (.inr (.inr 52)), some (.inl (zf)), some (.inl (zk + 1))] [] h1 Q)) : me_E (d + 1) 25 15 [some (.inr (.inr 52)), some (.inl (zf)), some (.inl (zk))] [.inl (zz)] h Q := Or.elim (mi_em .lt (zz) (((97 : Int)))) (fun c0 => ms_clC_0 hS ok_zf ok_zk ok_zz ⟨c0, (by decide), (by decide)⟩ (fun h1 W => (k0 c0) h1 W.1 (W.2.2.2.2.2 _ rfl))) (fun c0 => Or.elim (mi_em .gt (zz) (((122 : Int)))) (fun c1 => ms_clC_1 hS ok_zf ok_zk ok_zz ⟨c0, c1, (by decide), (by decide)⟩ (fun h1 W => (k1 c0 c1) h1 W.1 (W.2.2.2.2.2 _ rfl))) (fun c1 => ms_clC_2 hS ok_zf ok_zk ok_zz ⟨c0, c1, (by decide), (by decide), (k2 c0 c1).1⟩ (fun h1 W => (k2 c0 c1).2 h1 W.1 (W.2.2.2.2.2 _ rfl))))
set_option maxRecDepth 20000 in
theorem mp_ccA_0 (h : sm_H) (d : Nat) (zf zt : Int) : mj_path [(34, (5, 1, sb_34))] sx_sk h 6 [8] (d + 1, 34, 0, [some (.inr (.inr 52)), some (.inl (zf)), some (.inl (zt)), none, none], [], [], []) = some ((d + 1, 34, 7, [some (.inr (.inr 52)), some (.inl (zf)), some (.inl (zt)), some (.inl ((0 : Int))), some (.inl (zt - ((1 : Int))))], [], [], []), [-2147483648 ≤ zt - ((1 : Int)) ∧ zt - ((1 : Int)) ≤ 2147483647]) := rfl
theorem mi_tab_ccA_0 : ∀ e ∈ ([(34, (5, 1, sb_34))] : mi_T), sc_P e.1 = some e.2 := mi_tb mi_P34 (mi_tb_e)
set_option maxRecDepth 20000 in
theorem ms_ccA_0 {h : sm_H} {d : Nat} {Q : Option mi_V → sm_H → Prop} {zf zt : Int} (hS : ab_Sh sx_sk h) (ok_zf : mi_in zf) (ok_zt : mi_in zt) (ho : (-2147483648 ≤ zt - ((1 : Int)) ∧ zt - ((1 : Int)) ≤ 2147483647)) (kon : ∀ h1, me_W [] h h1 → me_E (d + 1) 34 7 [some (.inr (.inr 52)), some (.inl (zf)), some (.inl (zt)), some (.inl ((0 : Int))), some (.inl (zt - ((1 : Int))))] [] h1 Q) : me_E (d + 1) 34 0 [some (.inr (.inr 52)), some (.inl (zf)), some (.inl (zt)), none, none] [] h Q := mf_seg (mp_ccA_0 h d zf zt) (mi_tab_ccA_0) hS (mi_okL_c (trivial) (mi_okL_c (ok_zf) (mi_okL_c (ok_zt) (mi_okL_n (mi_okL_n (mi_okL_e)))))) (mi_okS_e) (mi_al (ho) (mi_al_e)) (fun h1 W _ hst => kon h1 W)
set_option maxRecDepth 20000 in
theorem mt_ccA {h : sm_H} {d : Nat} {Q : Option mi_V → sm_H → Prop} {zf zt : Int} (hS : ab_Sh sx_sk h) (ok_zf : mi_in zf) (ok_zt : mi_in zt) (k0 : ((-2147483648 ≤ zt - ((1 : Int)) ∧ zt - ((1 : Int)) ≤ 2147483647)) ∧ (∀ h1, ab_Sh sx_sk h1 → ab_Fr [] h h1 → me_E (d + 1) 34 7 [some (.inr (.inr 52)), some (.inl (zf)), some (.inl (zt)), some (.inl ((0 : Int))), some (.inl (zt - ((1 : Int))))] [] h1 Q)) : me_E (d + 1) 34 0 [some (.inr (.inr 52)), some (.inl (zf)), some (.inl (zt)), none, none] [] h Q := ms_ccA_0 hS ok_zf ok_zt ((k0).1) (fun h1 W => (k0).2 h1 W.1 (W.2.2.2.2.2 _ rfl))
set_option maxRecDepth 20000 in
theorem mp_ccB_0 (h : sm_H) (d : Nat) (zf zt zv zk : Int) : mj_path [(34, (5, 1, sb_34))] sx_sk h 4 [1] (d + 1, 34, 7, [some (.inr (.inr 52)), some (.inl (zf)), some (.inl (zt)), some (.inl (zv)), some (.inl (zk))], [], [], []) = some ((d + 1, 34, 36, [some (.inr (.inr 52)), some (.inl (zf)), some (.inl (zt)), some (.inl (zv)), some (.inl (zk))], [.inl (zv)], [], []), [zk < zf]) := rfl
theorem mi_tab_ccB_0 : ∀ e ∈ ([(34, (5, 1, sb_34))] : mi_T), sc_P e.1 = some e.2 := mi_tb mi_P34 (mi_tb_e)
set_option maxRecDepth 20000 in
theorem ms_ccB_0 {h : sm_H} {d : Nat} {Q : Option mi_V → sm_H → Prop} {zf zt zv zk : Int} (hS : ab_Sh sx_sk h) (ok_zf : mi_in zf) (ok_zt : mi_in zt) (ok_zv : mi_in zv) (ok_zk : mi_in zk) (ho : (zk < zf)) (kon : ∀ h1, me_W [] h h1 → Q (some (.inl (zv))) h1) : me_E (d + 1) 34 7 [some (.inr (.inr 52)), some (.inl (zf)), some (.inl (zt)), some (.inl (zv)), some (.inl (zk))] [] h Q := mf_seg (mp_ccB_0 h d zf zt zv zk) (mi_tab_ccB_0) hS (mi_okL_c (trivial) (mi_okL_c (ok_zf) (mi_okL_c (ok_zt) (mi_okL_c (ok_zv) (mi_okL_c (ok_zk) (mi_okL_e)))))) (mi_okS_e) (mi_al (ho) (mi_al_e)) (fun h1 W _ hst => mf_ret (M := (5, 1, sb_34)) rfl rfl rfl hst (mi_al_e) (kon h1 W))
set_option maxRecDepth 20000 in
theorem mp_ccB_1 (h : sm_H) (d : Nat) (zf zt zv zk : Int) : mj_path [(34, (5, 1, sb_34))] sx_sk h 8 [0] (d + 1, 34, 7, [some (.inr (.inr 52)), some (.inl (zf)), some (.inl (zt)), some (.inl (zv)), some (.inl (zk))], [], [], []) = some ((d + 1, 34, 19, [some (.inr (.inr 52)), some (.inl (zf)), some (.inl (zt)), some (.inl (zv)), some (.inl (zk))], [.inl (zk), .inr (.inr 52), .inl ((Int32.ofInt zv <<< (Int32.ofInt ((5 : Int)) &&& 31)).toInt)], [], []), [zf ≤ zk]) := rfl
theorem mi_tab_ccB_1 : ∀ e ∈ ([(34, (5, 1, sb_34))] : mi_T), sc_P e.1 = some e.2 := mi_tb mi_P34 (mi_tb_e)
set_option maxRecDepth 20000 in
theorem ms_ccB_1 {h : sm_H} {d : Nat} {Q : Option mi_V → sm_H → Prop} {zf zt zv zk : Int} (hS : ab_Sh sx_sk h) (ok_zf : mi_in zf) (ok_zt : mi_in zt) (ok_zv : mi_in zv) (ok_zk : mi_in zk) (ho : (zf ≤ zk)) (kon : ∀ h1, me_W [] h h1 → ∃ Q1, me_E (d + 0) 20 0 (mi_entry 2 [.inr (.inr 52), .inl (zk)]) [] h1 Q1 ∧ ∀ w h2, (∀ x, w = some x → mi_ok x) → Q1 w h2 → me_E (d + 1) 34 22 [some (.inr (.inr 52)), some (.inl (zf)), some (.inl (zt)), some (.inl (zv)), some (.inl (zk))] (mi_back w [.inl ((Int32.ofInt zv <<< (Int32.ofInt ((5 : Int)) &&& 31)).toInt)]) h2 Q) : me_E (d + 1) 34 7 [some (.inr (.inr 52)), some (.inl (zf)), some (.inl (zt)), some (.inl (zv)), some (.inl (zk))] [] h Q := mf_seg (mp_ccB_1 h d zf zt zv zk) (mi_tab_ccB_1) hS (mi_okL_c (trivial) (mi_okL_c (ok_zf) (mi_okL_c (ok_zt) (mi_okL_c (ok_zv) (mi_okL_c (ok_zk) (mi_okL_e)))))) (mi_okS_e) (mi_al (ho) (mi_al_e)) (fun h1 W _ hst => let ⟨_, k1, k2⟩ := kon h1 W; mf_call (M := (5, 1, sb_34)) (M' := (2, 5, sb_20)) rfl rfl rfl rfl (Nat.le_of_ble_eq_true rfl) (Nat.le_of_ble_eq_true rfl) W.1 k1 k2)
set_option maxRecDepth 20000 in
theorem mt_ccB {h : sm_H} {d : Nat} {Q : Option mi_V → sm_H → Prop} {zf zt zv zk : Int} (hS : ab_Sh sx_sk h) (ok_zf : mi_in zf) (ok_zt : mi_in zt) (ok_zv : mi_in zv) (ok_zk : mi_in zk) (k0 : (zk < zf) → (∀ h1, ab_Sh sx_sk h1 → ab_Fr [] h h1 → Q (some (.inl (zv))) h1)) (k1 : (zf ≤ zk) → (∀ h1, ab_Sh sx_sk h1 → ab_Fr [] h h1 → ∃ Q1, me_E (d + 0) 20 0 (mi_entry 2 [.inr (.inr 52), .inl (zk)]) [] h1 Q1 ∧ ∀ w h2, (∀ x, w = some x → mi_ok x) → Q1 w h2 → me_E (d + 1) 34 22 [some (.inr (.inr 52)), some (.inl (zf)), some (.inl (zt)), some (.inl (zv)), some (.inl (zk))] (mi_back w [.inl ((Int32.ofInt zv <<< (Int32.ofInt ((5 : Int)) &&& 31)).toInt)]) h2 Q)) : me_E (d + 1) 34 7 [some (.inr (.inr 52)), some (.inl (zf)), some (.inl (zt)), some (.inl (zv)), some (.inl (zk))] [] h Q := Or.elim (mi_em .lt (zk) (zf)) (fun c0 => ms_ccB_0 hS ok_zf ok_zt ok_zv ok_zk (c0) (fun h1 W => (k0 c0) h1 W.1 (W.2.2.2.2.2 _ rfl))) (fun c0 => ms_ccB_1 hS ok_zf ok_zt ok_zv ok_zk (c0) (fun h1 W => (k1 c0) h1 W.1 (W.2.2.2.2.2 _ rfl)))
set_option maxRecDepth 20000 in
theorem mp_ccC_0 (h : sm_H) (d : Nat) (zf zt zv zk zz zy : Int) : mj_path [(34, (5, 1, sb_34))] sx_sk h 8 [8, 8] (d + 1, 34, 22, [some (.inr (.inr 52)), some (.inl (zf)), some (.inl (zt)), some (.inl (zv)), some (.inl (zk))], [.inl (zz), .inl (zy)], [], []) = some ((d + 1, 34, 7, [some (.inr (.inr 52)), some (.inl (zf)), some (.inl (zt)), some (.inl ((Int32.ofInt zy ||| Int32.ofInt ((zz - ((97 : Int))) + ((1 : Int)))).toInt)), some (.inl (zk + (-1)))], [], [], []), [-2147483648 ≤ zz - ((97 : Int)) ∧ zz - ((97 : Int)) ≤ 2147483647, -2147483648 ≤ (zz - ((97 : Int))) + ((1 : Int)) ∧ (zz - ((97 : Int))) + ((1 : Int)) ≤ 2147483647, -2147483648 ≤ zk + (-1) ∧ zk + (-1) ≤ 2147483647]) := rfl
theorem mi_tab_ccC_0 : ∀ e ∈ ([(34, (5, 1, sb_34))] : mi_T), sc_P e.1 = some e.2 := mi_tb mi_P34 (mi_tb_e)
set_option maxRecDepth 20000 in
theorem ms_ccC_0 {h : sm_H} {d : Nat} {Q : Option mi_V → sm_H → Prop} {zf zt zv zk zz zy : Int} (hS : ab_Sh sx_sk h) (ok_zf : mi_in zf) (ok_zt : mi_in zt) (ok_zv : mi_in zv) (ok_zk : mi_in zk) (ok_zz : mi_in zz) (ok_zy : mi_in zy) (ho : (-2147483648 ≤ zz - ((97 : Int)) ∧ zz - ((97 : Int)) ≤ 2147483647) ∧ (-2147483648 ≤ (zz - ((97 : Int))) + ((1 : Int)) ∧ (zz - ((97 : Int))) + ((1 : Int)) ≤ 2147483647) ∧ (-2147483648 ≤ zk + (-1) ∧ zk + (-1) ≤ 2147483647)) (kon : ∀ h1, me_W [] h h1 → me_E (d + 1) 34 7 [some (.inr (.inr 52)), some (.inl (zf)), some (.inl (zt)), some (.inl ((Int32.ofInt zy ||| Int32.ofInt ((zz - ((97 : Int))) + ((1 : Int)))).toInt)), some (.inl (zk + (-1)))] [] h1 Q) : me_E (d + 1) 34 22 [some (.inr (.inr 52)), some (.inl (zf)), some (.inl (zt)), some (.inl (zv)), some (.inl (zk))] [.inl (zz), .inl (zy)] h Q := mf_seg (mp_ccC_0 h d zf zt zv zk zz zy) (mi_tab_ccC_0) hS (mi_okL_c (trivial) (mi_okL_c (ok_zf) (mi_okL_c (ok_zt) (mi_okL_c (ok_zv) (mi_okL_c (ok_zk) (mi_okL_e)))))) (mi_okS_cons (ok_zz) (mi_okS_cons (ok_zy) (mi_okS_e))) (mi_al (ho.1) (mi_al (ho.2.1) (mi_al (ho.2.2) (mi_al_e)))) (fun h1 W _ hst => kon h1 W)
set_option maxRecDepth 20000 in
theorem mt_ccC {h : sm_H} {d : Nat} {Q : Option mi_V → sm_H → Prop} {zf zt zv zk zz zy : Int} (hS : ab_Sh sx_sk h) (ok_zf : mi_in zf) (ok_zt : mi_in zt) (ok_zv : mi_in zv) (ok_zk : mi_in zk) (ok_zz : mi_in zz) (ok_zy : mi_in zy) (k0 : ((-2147483648 ≤ zz - ((97 : Int)) ∧ zz - ((97 : Int)) ≤ 2147483647) ∧ (-2147483648 ≤ (zz - ((97 : Int))) + ((1 : Int)) ∧ (zz - ((97 : Int))) + ((1 : Int)) ≤ 2147483647) ∧ (-2147483648 ≤ zk + (-1) ∧ zk + (-1) ≤ 2147483647)) ∧ (∀ h1, ab_Sh sx_sk h1 → ab_Fr [] h h1 → me_E (d + 1) 34 7 [some (.inr (.inr 52)), some (.inl (zf)), some (.inl (zt)), some (.inl ((Int32.ofInt zy ||| Int32.ofInt ((zz - ((97 : Int))) + ((1 : Int)))).toInt)), some (.inl (zk + (-1)))] [] h1 Q)) : me_E (d + 1) 34 22 [some (.inr (.inr 52)), some (.inl (zf)), some (.inl (zt)), some (.inl (zv)), some (.inl (zk))] [.inl (zz), .inl (zy)] h Q := ms_ccC_0 hS ok_zf ok_zt ok_zv ok_zk ok_zz ok_zy ⟨(k0).1.1, (k0).1.2.1, (k0).1.2.2⟩ (fun h1 W => (k0).2 h1 W.1 (W.2.2.2.2.2 _ rfl))
/-! the class's Text, exactly: the description -/
def cx_at (h : sm_H) (k : Int) : Int := if 0 ≤ k ∧ k < mi_f h 6657 then mi_a h 53 k.toNat else 32
section CTX
variable {d : Nat} {h : sm_H} {zf zt zk : Int}
theorem cx_in (hS : ab_Sh sx_sk h) (k : Int) : 0 ≤ cx_at h k ∧ cx_at h k ≤ 65535 := by
  have bn := me_fb (c := 6657) hS rfl
  unfold cx_at
  by_cases c : 0 ≤ k ∧ k < mi_f h 6657
  · rw [if_pos c]
    exact me_ab (k := 53) (i := k.toNat) hS rfl (by decide) (by omega)
  · rw [if_neg c]
    omega
theorem me_cat (hS : ab_Sh sx_sk h) (ok : mi_in zk) : me_E d 20 0 [some (.inr (.inr 52)), some (.inl zk)] [] h (fun w h' => h' = h ∧ w = some (.inl (cx_at h zk))) := by
  have fin : ∀ {z : Int}, z = cx_at h zk → ∀ h1, ab_Sh sx_sk h1 → ab_Fr [] h h1 → (h1 = h ∧ (some (.inl z) : Option mi_V) = some (.inl (cx_at h zk))) := fun {z} e h1 g1 g2 => ⟨me_nil g2, by rw [e]⟩
  refine mt_ctA hS ok ?_ ?_ ?_ ?_
  · intro c
    exact fin (by unfold cx_at; rw [if_neg (by omega)])
  · intro b c c2
    exact fin (by unfold cx_at; rw [if_neg (by omega)])
  · intro b c c2 c3
    exfalso; omega
  · intro b c c2 c3
    refine ⟨⟨⟨by omega, by omega⟩, me_ab (k := 53) (i := zk.toNat) hS rfl (by decide) (by omega)⟩, fin ?_⟩
    unfold cx_at
    rw [if_pos ⟨c, c2⟩]
theorem cb2 (hS : ab_Sh sx_sk h) (of : mi_in zf) (f0 : 0 ≤ zf) : ∀ (N : Nat) (zk : Int), 1000 - zk < N → zf ≤ zk → zk ≤ 1000 → (∀ j, zf ≤ j → j < zk → j < mi_f h 6657 ∧ tx_blk (mi_a h 53 j.toNat)) → me_E (d + 1) 19 2 [some (.inr (.inr 52)), some (.inl zf), some (.inl zk)] [] h (fun w h' => h' = h ∧ ∃ e, w = some (.inl e) ∧ tx_end tx_blk (mi_f h 6657) (mi_a h 53) zf e) := by
  have bn := me_fb (c := 6657) hS rfl
  intro N
  induction N with
  | zero => intro zk hN k0 k1; exfalso; omega
  | succ N ih =>
    intro zk hN k0 k1 hl
    have ok : mi_in zk := ⟨by omega, by omega⟩
    refine mt_cbB hS of ok ?_ ?_
    · intro b c h1 g1 g2
      exact ⟨me_nil g2, zk, rfl, k0, hl, fun x => by omega⟩
    · intro b c h1 g1 g2
      have e := me_nil g2
      subst e
      refine ⟨_, me_cat (d := d) hS ok, fun w h2 ow hq => ?_⟩
      obtain ⟨rfl, rfl⟩ := hq
      have ea : cx_at h2 zk = mi_a h2 53 zk.toNat := by unfold cx_at; rw [if_pos ⟨by omega, c⟩]
      have ob := cx_in hS zk
      have on : tx_blk (mi_a h2 53 zk.toNat) → me_E (d + 1) 19 2 [some (.inr (.inr 52)), some (.inl zf), some (.inl (zk + 1))] [] h2 (fun w h' => h' = h2 ∧ ∃ e, w = some (.inl e) ∧ tx_end tx_blk (mi_f h2 6657) (mi_a h2 53) zf e) := fun hb => by
        refine ih (zk + 1) (by omega) (by omega) (by omega) (fun j a1 a2 => ?_)
        by_cases ej : j = zk
        · subst ej
          exact ⟨c, hb⟩
        · exact hl j a1 (by omega)
      refine mt_cbC (zz := cx_at h2 zk) hS of ok ⟨by omega, by omega⟩ ?_ ?_ ?_
      · intro c2
        rw [ea] at c2
        refine ⟨⟨by omega, by omega⟩, fun h3 g1 g2 => ?_⟩
        have e := me_nil g2
        subst e
        exact on (Or.inl c2)
      · intro c2 c3 h3 g1 g2
        rw [ea] at c2 c3
        exact ⟨me_nil g2, zk, rfl, k0, hl, fun x => x.2.elim c2 c3⟩
      · intro c2 c3
        rw [ea] at c3
        refine ⟨⟨by omega, by omega⟩, fun h3 g1 g2 => ?_⟩
        have e := me_nil g2
        subst e
        exact on (Or.inr c3)
theorem me_cblanks (hS : ab_Sh sx_sk h) (f0 : 0 ≤ zf) (f1 : zf ≤ 300) : me_E (d + 1) 19 0 [some (.inr (.inr 52)), some (.inl zf), none] [] h (fun w h' => h' = h ∧ ∃ e, w = some (.inl e) ∧ tx_end tx_blk (mi_f h 6657) (mi_a h 53) zf e) := by
  have of : mi_in zf := ⟨by omega, by omega⟩
  refine mt_cbA hS of (fun h1 g1 g2 => ?_)
  have e := me_nil g2
  subst e
  exact cb2 hS of f0 1002 zf (by omega) (by omega) (by omega) (fun j a1 a2 => by omega)
theorem cl2 (hS : ab_Sh sx_sk h) (of : mi_in zf) (f0 : 0 ≤ zf) : ∀ (N : Nat) (zk : Int), 1000 - zk < N → zf ≤ zk → zk ≤ 1000 → (∀ j, zf ≤ j → j < zk → j < mi_f h 6657 ∧ tx_low (mi_a h 53 j.toNat)) → me_E (d + 1) 25 2 [some (.inr (.inr 52)), some (.inl zf), some (.inl zk)] [] h (fun w h' => h' = h ∧ ∃ e, w = some (.inl e) ∧ tx_end tx_low (mi_f h 6657) (mi_a h 53) zf e) := by
  have bn := me_fb (c := 6657) hS rfl
  intro N
  induction N with
  | zero => intro zk hN k0 k1; exfalso; omega
  | succ N ih =>
    intro zk hN k0 k1 hl
    have ok : mi_in zk := ⟨by omega, by omega⟩
    refine mt_clB hS of ok ?_ ?_
    · intro b c h1 g1 g2
      exact ⟨me_nil g2, zk, rfl, k0, hl, fun x => by omega⟩
    · intro b c h1 g1 g2
      have e := me_nil g2
      subst e
      refine ⟨_, me_cat (d := d) hS ok, fun w h2 ow hq => ?_⟩
      obtain ⟨rfl, rfl⟩ := hq
      have ea : cx_at h2 zk = mi_a h2 53 zk.toNat := by unfold cx_at; rw [if_pos ⟨by omega, c⟩]
      have ob := cx_in hS zk
      refine mt_clC (zz := cx_at h2 zk) hS of ok ⟨by omega, by omega⟩ ?_ ?_ ?_
      · intro c2 h3 g1 g2
        rw [ea] at c2
        exact ⟨me_nil g2, zk, rfl, k0, hl, fun x => by have := x.2.1; omega⟩
      · intro c2 c3 h3 g1 g2
        rw [ea] at c3
        exact ⟨me_nil g2, zk, rfl, k0, hl, fun x => by have := x.2.2; omega⟩
      · intro c2 c3
        rw [ea] at c2 c3
        refine ⟨⟨by omega, by omega⟩, fun h3 g1 g2 => ?_⟩
        have e := me_nil g2
        subst e
        refine ih (zk + 1) (by omega) (by omega) (by omega) (fun j a1 a2 => ?_)
        by_cases ej : j = zk
        · subst ej
          exact ⟨c, c2, c3⟩
        · exact hl j a1 (by omega)
theorem me_cletters (hS : ab_Sh sx_sk h) (f0 : 0 ≤ zf) (f1 : zf ≤ 300) : me_E (d + 1) 25 0 [some (.inr (.inr 52)), some (.inl zf), none] [] h (fun w h' => h' = h ∧ ∃ e, w = some (.inl e) ∧ tx_end tx_low (mi_f h 6657) (mi_a h 53) zf e) := by
  have of : mi_in zf := ⟨by omega, by omega⟩
  refine mt_clA hS of (fun h1 g1 g2 => ?_)
  have e := me_nil g2
  subst e
  exact cl2 hS of f0 1002 zf (by omega) (by omega) (by omega) (fun j a1 a2 => by omega)
/-- one letter more in front, in an int -/
theorem tx_pack32 {V X : Int} (v0 : 0 ≤ V) (v1 : V < 1048576) (x0 : 0 ≤ X) (x1 : X < 32) : (Int32.ofInt ((Int32.ofInt V <<< (Int32.ofInt ((5 : Int)) &&& 31)).toInt) ||| Int32.ofInt X).toInt = X + 32 * V := by
  rw [Int32.ofInt_toInt]
  have toN : ∀ {z : Int}, 0 ≤ z → z < 1073741824 → ((Int32.ofInt z).toBitVec.toNat : Int) = z := fun {z} h0 h1 => by
    have e2 : (Int32.ofInt z).toBitVec.toInt = z := mi_ti (z := z) ⟨by omega, by omega⟩
    have e3 := BitVec.toInt_eq_toNat_cond (Int32.ofInt z).toBitVec
    have e4 := (Int32.ofInt z).toBitVec.isLt
    split at e3 <;> omega
  have nX := toN x0 (by omega)
  have nV := toN v0 (by omega)
  generalize hA : Int32.ofInt X = A at nX
  generalize hB : Int32.ofInt V = B at nV
  have e5 : (Int32.ofInt ((5 : Int)) &&& 31).toBitVec.smod 32 = BitVec.ofNat 32 5 := by decide
  have main : ((B <<< (Int32.ofInt ((5 : Int)) &&& 31)) ||| A).toBitVec.toNat = B.toBitVec.toNat * 32 + A.toBitVec.toNat := by
    rw [Int32.toBitVec_or, BitVec.toNat_or, Int32.toBitVec_shiftLeft, e5]
    have e : (B.toBitVec <<< BitVec.ofNat 32 5) = B.toBitVec <<< 5 := by
      rw [BitVec.shiftLeft_eq', BitVec.toNat_ofNat]
    rw [e, BitVec.toNat_shiftLeft, Nat.mod_eq_of_lt (by rw [Nat.shiftLeft_eq]; omega), ← Nat.shiftLeft_add_eq_or_of_lt (by omega), Nat.shiftLeft_eq]
  show ((B <<< (Int32.ofInt ((5 : Int)) &&& 31)) ||| A).toBitVec.toInt = _
  rw [BitVec.toInt_eq_toNat_of_lt (by rw [main]; omega), main]
  omega
theorem cc7 (hS : ab_Sh sx_sk h) (f0 : 0 ≤ zf) (ft : zf ≤ zt) (t1 : zt ≤ mi_f h 6657) (t5 : zt - zf ≤ 5) (hl : ∀ j, zf ≤ j → j < zt → tx_low (mi_a h 53 j.toNat)) : ∀ (N : Nat) (zk : Int), zk - zf + 1 < N → zf - 1 ≤ zk → zk < zt → me_E (d + 1) 34 7 [some (.inr (.inr 52)), some (.inl zf), some (.inl zt), some (.inl (tx_code (mi_a h 53) (zk + 1) (zt - 1 - zk).toNat)), some (.inl zk)] [] h (fun w h' => h' = h ∧ w = some (.inl (tx_code (mi_a h 53) zf (zt - zf).toNat))) := by
  have bn := me_fb (c := 6657) hS rfl
  intro N
  induction N with
  | zero => intro zk hN k0; exfalso; omega
  | succ N ih =>
    intro zk hN k0 k1
    have of : mi_in zf := ⟨by omega, by omega⟩
    have ot : mi_in zt := ⟨by omega, by omega⟩
    have ok : mi_in zk := ⟨by omega, by omega⟩
    have cb := tx_code_b (c := mi_a h 53) (zt - 1 - zk).toNat (zk + 1) (fun j a1 a2 => hl j (by omega) (by omega))
    have p5 : (32 : Int) ^ (zt - 1 - zk).toNat ≤ 32 ^ 5 := by
      have : (32 : Nat) ^ (zt - 1 - zk).toNat ≤ 32 ^ 5 := Nat.pow_le_pow_right (by decide) (by omega)
      exact_mod_cast this
    have e32 : (32 : Int) ^ 5 = 33554432 := by decide
    have ov : mi_in (tx_code (mi_a h 53) (zk + 1) (zt - 1 - zk).toNat) := ⟨by omega, by omega⟩
    refine mt_ccB hS of ot ov ok ?_ ?_
    · intro c h1 g1 g2
      have ek : zk = zf - 1 := by omega
      subst ek
      refine ⟨me_nil g2, ?_⟩
      rw [show zf - 1 + 1 = zf by omega, show zt - 1 - (zf - 1) = zt - zf by omega]
    · intro c h1 g1 g2
      have e := me_nil g2
      subst e
      refine ⟨_, me_cat (d := d) hS ok, fun w h2 ow hq => ?_⟩
      obtain ⟨rfl, rfl⟩ := hq
      have ea : cx_at h2 zk = mi_a h2 53 zk.toNat := by unfold cx_at; rw [if_pos ⟨by omega, by omega⟩]
      obtain ⟨x0, x1⟩ := hl zk c k1
      have p4 : (32 : Int) ^ (zt - 1 - zk).toNat ≤ 32 ^ 4 := by
        have : (32 : Nat) ^ (zt - 1 - zk).toNat ≤ 32 ^ 4 := Nat.pow_le_pow_right (by decide) (by omega)
        exact_mod_cast this
      have e4 : (32 : Int) ^ 4 = 1048576 := by decide
      have pk := tx_pack32 (V := tx_code (mi_a h2 53) (zk + 1) (zt - 1 - zk).toNat) (X := mi_a h2 53 zk.toNat - 97 + 1) cb.1 (by omega) (by omega) (by omega)
      refine mt_ccC (zz := cx_at h2 zk) (zy := (Int32.ofInt (tx_code (mi_a h2 53) (zk + 1) (zt - 1 - zk).toNat) <<< (Int32.ofInt ((5 : Int)) &&& 31)).toInt) hS of ot ov ok (by rw [ea]; exact ⟨by omega, by omega⟩) (mi_inT _) ?_
      rw [ea, pk]
      refine ⟨⟨⟨by omega, by omega⟩, ⟨by omega, by omega⟩, ⟨by omega, by omega⟩⟩, fun h3 g1 g2 => ?_⟩
      have e := me_nil g2
      subst e
      have em : (zt - 1 - zk).toNat + 1 = (zt - 1 - (zk + -1)).toNat := by omega
      have ec : mi_a h3 53 zk.toNat - 97 + 1 + 32 * tx_code (mi_a h3 53) (zk + 1) (zt - 1 - zk).toNat = tx_code (mi_a h3 53) (zk + -1 + 1) (zt - 1 - (zk + -1)).toNat := by
        rw [← em, show zk + -1 + 1 = zk by omega]
        show _ = (mi_a h3 53 zk.toNat - 96) + 32 * tx_code (mi_a h3 53) (zk + 1) (zt - 1 - zk).toNat
        omega
      rw [ec]
      exact ih (zk + -1) (by omega) (by omega) (by omega)
theorem me_ccode (hS : ab_Sh sx_sk h) (f0 : 0 ≤ zf) (ft : zf ≤ zt) (t1 : zt ≤ mi_f h 6657) (t5 : zt - zf ≤ 5) (hl : ∀ j, zf ≤ j → j < zt → tx_low (mi_a h 53 j.toNat)) : me_E (d + 1) 34 0 [some (.inr (.inr 52)), some (.inl zf), some (.inl zt), none, none] [] h (fun w h' => h' = h ∧ w = some (.inl (tx_code (mi_a h 53) zf (zt - zf).toNat))) := by
  have bn := me_fb (c := 6657) hS rfl
  refine mt_ccA hS ⟨by omega, by omega⟩ ⟨by omega, by omega⟩ ⟨⟨by omega, by omega⟩, fun h1 g1 g2 => ?_⟩
  have e := me_nil g2
  subst e
  have := cc7 (d := d) hS f0 ft t1 t5 hl 8 (zt - 1) (by omega) (by omega) (by omega)
  rw [show zt - 1 - (zt - 1) = 0 by omega] at this
  exact this
end CTX
/-! segments of the class: has -/
set_option maxRecDepth 20000 in
theorem mp_h1A_0 (h : sm_H) (d : Nat) (zf zt : Int) : mj_path [(26, (6, 4, sb_26))] sx_sk h 4 [8] (d + 6, 26, 0, [some (.inr (.inr 52)), some (.inr (.inr 1)), some (.inl (zf)), some (.inl (zt)), none, none], [], [], []) = some ((d + 6, 26, 4, [some (.inr (.inr 52)), some (.inr (.inr 1)), some (.inl (zf)), some (.inl (zt)), none, none], [.inr (.inr 1), .inl (zt - zf)], [], []), [-2147483648 ≤ zt - zf ∧ zt - zf ≤ 2147483647]) := rfl
theorem mi_tab_h1A_0 : ∀ e ∈ ([(26, (6, 4, sb_26))] : mi_T), sc_P e.1 = some e.2 := mi_tb mi_P26 (mi_tb_e)
set_option maxRecDepth 20000 in
theorem ms_h1A_0 {h : sm_H} {d : Nat} {Q : Option mi_V → sm_H → Prop} {zf zt : Int} (hS : ab_Sh sx_sk h) (ok_zf : mi_in zf) (ok_zt : mi_in zt) (ho : (-2147483648 ≤ zt - zf ∧ zt - zf ≤ 2147483647)) (kon : ∀ h1, me_W [] h h1 → ∃ Q1, me_E (d + 5) 27 0 (mi_entry 1 [.inr (.inr 1)]) [] h1 Q1 ∧ ∀ w h2, (∀ x, w = some x → mi_ok x) → Q1 w h2 → me_E (d + 6) 26 7 [some (.inr (.inr 52)), some (.inr (.inr 1)), some (.inl (zf)), some (.inl (zt)), none, none] (mi_back w [.inl (zt - zf)]) h2 Q) : me_E (d + 6) 26 0 [some (.inr (.inr 52)), some (.inr (.inr 1)), some (.inl (zf)), some (.inl (zt)), none, none] [] h Q := mf_seg (mp_h1A_0 h d zf zt) (mi_tab_h1A_0) hS (mi_okL_c (trivial) (mi_okL_c (trivial) (mi_okL_c (ok_zf) (mi_okL_c (ok_zt) (mi_okL_n (mi_okL_n (mi_okL_e))))))) (mi_okS_e) (mi_al (ho) (mi_al_e)) (fun h1 W _ hst => let ⟨_, k1, k2⟩ := kon h1 W; mf_call (M := (6, 4, sb_26)) (M' := (1, 1, sb_27)) rfl rfl rfl rfl (Nat.le_of_ble_eq_true rfl) (Nat.le_of_ble_eq_true rfl) W.1 k1 k2)
set_option maxRecDepth 20000 in
theorem mt_h1A {h : sm_H} {d : Nat} {Q : Option mi_V → sm_H → Prop} {zf zt : Int} (hS : ab_Sh sx_sk h) (ok_zf : mi_in zf) (ok_zt : mi_in zt) (k0 : ((-2147483648 ≤ zt - zf ∧ zt - zf ≤ 2147483647)) ∧ (∀ h1, ab_Sh sx_sk h1 → ab_Fr [] h h1 → ∃ Q1, me_E (d + 5) 27 0 (mi_entry 1 [.inr (.inr 1)]) [] h1 Q1 ∧ ∀ w h2, (∀ x, w = some x → mi_ok x) → Q1 w h2 → me_E (d + 6) 26 7 [some (.inr (.inr 52)), some (.inr (.inr 1)), some (.inl (zf)), some (.inl (zt)), none, none] (mi_back w [.inl (zt - zf)]) h2 Q)) : me_E (d + 6) 26 0 [some (.inr (.inr 52)), some (.inr (.inr 1)), some (.inl (zf)), some (.inl (zt)), none, none] [] h Q := ms_h1A_0 hS ok_zf ok_zt ((k0).1) (fun h1 W => (k0).2 h1 W.1 (W.2.2.2.2.2 _ rfl))
set_option maxRecDepth 20000 in
theorem mp_h1B_0 (h : sm_H) (d : Nat) (zf zt zl zs : Int) : mj_path [(26, (6, 4, sb_26))] sx_sk h 5 [1] (d + 6, 26, 7, [some (.inr (.inr 52)), some (.inr (.inr 1)), some (.inl (zf)), some (.inl (zt)), none, none], [.inl (zl), .inl (zs)], [], []) = some ((d + 6, 26, 20, [some (.inr (.inr 52)), some (.inr (.inr 1)), some (.inl (zf)), some (.inl (zt)), some (.inl ((0 : Int))), some (.inl ((0 : Int)))], [], [], []), [zs ≠ zl]) := rfl
theorem mi_tab_h1B_0 : ∀ e ∈ ([(26, (6, 4, sb_26))] : mi_T), sc_P e.1 = some e.2 := mi_tb mi_P26 (mi_tb_e)
set_option maxRecDepth 20000 in
theorem ms_h1B_0 {h : sm_H} {d : Nat} {Q : Option mi_V → sm_H → Prop} {zf zt zl zs : Int} (hS : ab_Sh sx_sk h) (ok_zf : mi_in zf) (ok_zt : mi_in zt) (ok_zl : mi_in zl) (ok_zs : mi_in zs) (ho : (zs ≠ zl)) (kon : ∀ h1, me_W [] h h1 → me_E (d + 6) 26 20 [some (.inr (.inr 52)), some (.inr (.inr 1)), some (.inl (zf)), some (.inl (zt)), some (.inl ((0 : Int))), some (.inl ((0 : Int)))] [] h1 Q) : me_E (d + 6) 26 7 [some (.inr (.inr 52)), some (.inr (.inr 1)), some (.inl (zf)), some (.inl (zt)), none, none] [.inl (zl), .inl (zs)] h Q := mf_seg (mp_h1B_0 h d zf zt zl zs) (mi_tab_h1B_0) hS (mi_okL_c (trivial) (mi_okL_c (trivial) (mi_okL_c (ok_zf) (mi_okL_c (ok_zt) (mi_okL_n (mi_okL_n (mi_okL_e))))))) (mi_okS_cons (ok_zl) (mi_okS_cons (ok_zs) (mi_okS_e))) (mi_al (ho) (mi_al_e)) (fun h1 W _ hst => kon h1 W)
set_option maxRecDepth 20000 in
theorem mp_h1B_1 (h : sm_H) (d : Nat) (zf zt zl zs : Int) : mj_path [(26, (6, 4, sb_26))] sx_sk h 6 [0] (d + 6, 26, 7, [some (.inr (.inr 52)), some (.inr (.inr 1)), some (.inl (zf)), some (.inl (zt)), none, none], [.inl (zl), .inl (zs)], [], []) = some ((d + 6, 26, 20, [some (.inr (.inr 52)), some (.inr (.inr 1)), some (.inl (zf)), some (.inl (zt)), some (.inl ((1 : Int))), some (.inl ((0 : Int)))], [], [], []), [zs = zl]) := rfl
theorem mi_tab_h1B_1 : ∀ e ∈ ([(26, (6, 4, sb_26))] : mi_T), sc_P e.1 = some e.2 := mi_tb mi_P26 (mi_tb_e)
set_option maxRecDepth 20000 in
theorem ms_h1B_1 {h : sm_H} {d : Nat} {Q : Option mi_V → sm_H → Prop} {zf zt zl zs : Int} (hS : ab_Sh sx_sk h) (ok_zf : mi_in zf) (ok_zt : mi_in zt) (ok_zl : mi_in zl) (ok_zs : mi_in zs) (ho : (zs = zl)) (kon : ∀ h1, me_W [] h h1 → me_E (d + 6) 26 20 [some (.inr (.inr 52)), some (.inr (.inr 1)), some (.inl (zf)), some (.inl (zt)), some (.inl ((1 : Int))), some (.inl ((0 : Int)))] [] h1 Q) : me_E (d + 6) 26 7 [some (.inr (.inr 52)), some (.inr (.inr 1)), some (.inl (zf)), some (.inl (zt)), none, none] [.inl (zl), .inl (zs)] h Q := mf_seg (mp_h1B_1 h d zf zt zl zs) (mi_tab_h1B_1) hS (mi_okL_c (trivial) (mi_okL_c (trivial) (mi_okL_c (ok_zf) (mi_okL_c (ok_zt) (mi_okL_n (mi_okL_n (mi_okL_e))))))) (mi_okS_cons (ok_zl) (mi_okS_cons (ok_zs) (mi_okS_e))) (mi_al (ho) (mi_al_e)) (fun h1 W _ hst => kon h1 W)
set_option maxRecDepth 20000 in
theorem mt_h1B {h : sm_H} {d : Nat} {Q : Option mi_V → sm_H → Prop} {zf zt zl zs : Int} (hS : ab_Sh sx_sk h) (ok_zf : mi_in zf) (ok_zt : mi_in zt) (ok_zl : mi_in zl) (ok_zs : mi_in zs) (k0 : (zs ≠ zl) → (∀ h1, ab_Sh sx_sk h1 → ab_Fr [] h h1 → me_E (d + 6) 26 20 [some (.inr (.inr 52)), some (.inr (.inr 1)), some (.inl (zf)), some (.inl (zt)), some (.inl ((0 : Int))), some (.inl ((0 : Int)))] [] h1 Q)) (k1 : (zs = zl) → (∀ h1, ab_Sh sx_sk h1 → ab_Fr [] h h1 → me_E (d + 6) 26 20 [some (.inr (.inr 52)), some (.inr (.inr 1)), some (.inl (zf)), some (.inl (zt)), some (.inl ((1 : Int))), some (.inl ((0 : Int)))] [] h1 Q)) : me_E (d + 6) 26 7 [some (.inr (.inr 52)), some (.inr (.inr 1)), some (.inl (zf)), some (.inl (zt)), none, none] [.inl (zl), .inl (zs)] h Q := Or.elim (mi_em .ne (zs) (zl)) (fun c0 => ms_h1B_0 hS ok_zf ok_zt ok_zl ok_zs (c0) (fun h1 W => (k0 c0) h1 W.1 (W.2.2.2.2.2 _ rfl))) (fun c0 => ms_h1B_1 hS ok_zf ok_zt ok_zl ok_zs (c0) (fun h1 W => (k1 c0) h1 W.1 (W.2.2.2.2.2 _ rfl)))
set_option maxRecDepth 20000 in
theorem mp_h1C_0 (h : sm_H) (d : Nat) (zf zt zm zk : Int) : mj_path [(26, (6, 4, sb_26))] sx_sk h 3 [1] (d + 6, 26, 20, [some (.inr (.inr 52)), some (.inr (.inr 1)), some (.inl (zf)), some (.inl (zt)), some (.inl (zm)), some (.inl (zk))], [], [], []) = some ((d + 6, 26, 66, [some (.inr (.inr 52)), some (.inr (.inr 1)), some (.inl (zf)), some (.inl (zt)), some (.inl (zm)), some (.inl (zk))], [.inl (zm)], [], []), [zm = ((0 : Int))]) := rfl
theorem mi_tab_h1C_0 : ∀ e ∈ ([(26, (6, 4, sb_26))] : mi_T), sc_P e.1 = some e.2 := mi_tb mi_P26 (mi_tb_e)
set_option maxRecDepth 20000 in
theorem ms_h1C_0 {h : sm_H} {d : Nat} {Q : Option mi_V → sm_H → Prop} {zf zt zm zk : Int} (hS : ab_Sh sx_sk h) (ok_zf : mi_in zf) (ok_zt : mi_in zt) (ok_zm : mi_in zm) (ok_zk : mi_in zk) (ho : (zm = ((0 : Int))) ∧ (zm = 0 ∨ zm = 1)) (kon : ∀ h1, me_W [] h h1 → Q (some (.inl (zm))) h1) : me_E (d + 6) 26 20 [some (.inr (.inr 52)), some (.inr (.inr 1)), some (.inl (zf)), some (.inl (zt)), some (.inl (zm)), some (.inl (zk))] [] h Q := mf_seg (mp_h1C_0 h d zf zt zm zk) (mi_tab_h1C_0) hS (mi_okL_c (trivial) (mi_okL_c (trivial) (mi_okL_c (ok_zf) (mi_okL_c (ok_zt) (mi_okL_c (ok_zm) (mi_okL_c (ok_zk) (mi_okL_e))))))) (mi_okS_e) (mi_al (ho.1) (mi_al_e)) (fun h1 W _ hst => mf_ret (M := (6, 4, sb_26)) rfl rfl rfl hst (mi_al (ho.2) mi_al_e) (kon h1 W))
set_option maxRecDepth 20000 in
theorem mp_h1C_1 (h : sm_H) (d : Nat) (zf zt zm zk : Int) : mj_path [(26, (6, 4, sb_26))] sx_sk h 4 [0] (d + 6, 26, 20, [some (.inr (.inr 52)), some (.inr (.inr 1)), some (.inl (zf)), some (.inl (zt)), some (.inl (zm)), some (.inl (zk))], [], [], []) = some ((d + 6, 26, 28, [some (.inr (.inr 52)), some (.inr (.inr 1)), some (.inl (zf)), some (.inl (zt)), some (.inl (zm)), some (.inl (zk))], [.inr (.inr 1), .inl (zk)], [], []), [zm ≠ ((0 : Int))]) := rfl
theorem mi_tab_h1C_1 : ∀ e ∈ ([(26, (6, 4, sb_26))] : mi_T), sc_P e.1 = some e.2 := mi_tb mi_P26 (mi_tb_e)
set_option maxRecDepth 20000 in
theorem ms_h1C_1 {h : sm_H} {d : Nat} {Q : Option mi_V → sm_H → Prop} {zf zt zm zk : Int} (hS : ab_Sh sx_sk h) (ok_zf : mi_in zf) (ok_zt : mi_in zt) (ok_zm : mi_in zm) (ok_zk : mi_in zk) (ho : (zm ≠ ((0 : Int)))) (kon : ∀ h1, me_W [] h h1 → ∃ Q1, me_E (d + 5) 27 0 (mi_entry 1 [.inr (.inr 1)]) [] h1 Q1 ∧ ∀ w h2, (∀ x, w = some x → mi_ok x) → Q1 w h2 → me_E (d + 6) 26 31 [some (.inr (.inr 52)), some (.inr (.inr 1)), some (.inl (zf)), some (.inl (zt)), some (.inl (zm)), some (.inl (zk))] (mi_back w [.inl (zk)]) h2 Q) : me_E (d + 6) 26 20 [some (.inr (.inr 52)), some (.inr (.inr 1)), some (.inl (zf)), some (.inl (zt)), some (.inl (zm)), some (.inl (zk))] [] h Q := mf_seg (mp_h1C_1 h d zf zt zm zk) (mi_tab_h1C_1) hS (mi_okL_c (trivial) (mi_okL_c (trivial) (mi_okL_c (ok_zf) (mi_okL_c (ok_zt) (mi_okL_c (ok_zm) (mi_okL_c (ok_zk) (mi_okL_e))))))) (mi_okS_e) (mi_al (ho) (mi_al_e)) (fun h1 W _ hst => let ⟨_, k1, k2⟩ := kon h1 W; mf_call (M := (6, 4, sb_26)) (M' := (1, 1, sb_27)) rfl rfl rfl rfl (Nat.le_of_ble_eq_true rfl) (Nat.le_of_ble_eq_true rfl) W.1 k1 k2)
set_option maxRecDepth 20000 in
theorem mt_h1C {h : sm_H} {d : Nat} {Q : Option mi_V → sm_H → Prop} {zf zt zm zk : Int} (hS : ab_Sh sx_sk h) (ok_zf : mi_in zf) (ok_zt : mi_in zt) (ok_zm : mi_in zm) (ok_zk : mi_in zk) (k0 : (zm = ((0 : Int))) → ((zm = 0 ∨ zm = 1)) ∧ (∀ h1, ab_Sh sx_sk h1 → ab_Fr [] h h1 → Q (some (.inl (zm))) h1)) (k1 : (zm ≠ ((0 : Int))) → (∀ h1, ab_Sh sx_sk h1 → ab_Fr [] h h1 → ∃ Q1, me_E (d + 5) 27 0 (mi_entry 1 [.inr (.inr 1)]) [] h1 Q1 ∧ ∀ w h2, (∀ x, w = some x → mi_ok x) → Q1 w h2 → me_E (d + 6) 26 31 [some (.inr (.inr 52)), some (.inr (.inr 1)), some (.inl (zf)), some (.inl (zt)), some (.inl (zm)), some (.inl (zk))] (mi_back w [.inl (zk)]) h2 Q)) : me_E (d + 6) 26 20 [some (.inr (.inr 52)), some (.inr (.inr 1)), some (.inl (zf)), some (.inl (zt)), some (.inl (zm)), some (.inl (zk))] [] h Q := Or.elim (mi_em .eq (zm) (((0 : Int)))) (fun c0 => ms_h1C_0 hS ok_zf ok_zt ok_zm ok_zk ⟨c0, (k0 c0).1⟩ (fun h1 W => (k0 c0).2 h1 W.1 (W.2.2.2.2.2 _ rfl))) (fun c0 => ms_h1C_1 hS ok_zf ok_zt ok_zm ok_zk (c0) (fun h1 W => (k1 c0) h1 W.1 (W.2.2.2.2.2 _ rfl)))
set_option maxRecDepth 20000 in
theorem mp_h1D_0 (h : sm_H) (d : Nat) (zf zt zm zk zl zy : Int) : mj_path [(26, (6, 4, sb_26))] sx_sk h 2 [1] (d + 6, 26, 31, [some (.inr (.inr 52)), some (.inr (.inr 1)), some (.inl (zf)), some (.inl (zt)), some (.inl (zm)), some (.inl (zk))], [.inl (zl), .inl (zy)], [], []) = some ((d + 6, 26, 66, [some (.inr (.inr 52)), some (.inr (.inr 1)), some (.inl (zf)), some (.inl (zt)), some (.inl (zm)), some (.inl (zk))], [.inl (zm)], [], []), [zl ≤ zy]) := rfl
theorem mi_tab_h1D_0 : ∀ e ∈ ([(26, (6, 4, sb_26))] : mi_T), sc_P e.1 = some e.2 := mi_tb mi_P26 (mi_tb_e)
set_option maxRecDepth 20000 in
theorem ms_h1D_0 {h : sm_H} {d : Nat} {Q : Option mi_V → sm_H → Prop} {zf zt zm zk zl zy : Int} (hS : ab_Sh sx_sk h) (ok_zf : mi_in zf) (ok_zt : mi_in zt) (ok_zm : mi_in zm) (ok_zk : mi_in zk) (ok_zl : mi_in zl) (ok_zy : mi_in zy) (ho : (zl ≤ zy) ∧ (zm = 0 ∨ zm = 1)) (kon : ∀ h1, me_W [] h h1 → Q (some (.inl (zm))) h1) : me_E (d + 6) 26 31 [some (.inr (.inr 52)), some (.inr (.inr 1)), some (.inl (zf)), some (.inl (zt)), some (.inl (zm)), some (.inl (zk))] [.inl (zl), .inl (zy)] h Q := mf_seg (mp_h1D_0 h d zf zt zm zk zl zy) (mi_tab_h1D_0) hS (mi_okL_c (trivial) (mi_okL_c (trivial) (mi_okL_c (ok_zf) (mi_okL_c (ok_zt) (mi_okL_c (ok_zm) (mi_okL_c (ok_zk) (mi_okL_e))))))) (mi_okS_cons (ok_zl) (mi_okS_cons (ok_zy) (mi_okS_e))) (mi_al (ho.1) (mi_al_e)) (fun h1 W _ hst => mf_ret (M := (6, 4, sb_26)) rfl rfl rfl hst (mi_al (ho.2) mi_al_e) (kon h1 W))
set_option maxRecDepth 20000 in
theorem mp_h1D_1 (h : sm_H) (d : Nat) (zf zt zm zk zl zy : Int) : mj_path [(26, (6, 4, sb_26))] sx_sk h 3 [0] (d + 6, 26, 31, [some (.inr (.inr 52)), some (.inr (.inr 1)), some (.inl (zf)), some (.inl (zt)), some (.inl (zm)), some (.inl (zk))], [.inl (zl), .inl (zy)], [], []) = some ((d + 6, 26, 37, [some (.inr (.inr 52)), some (.inr (.inr 1)), some (.inl (zf)), some (.inl (zt)), some (.inl (zm)), some (.inl (zk))], [.inl (zk), .inr (.inr 1)], [], []), [zy < zl]) := rfl
theorem mi_tab_h1D_1 : ∀ e ∈ ([(26, (6, 4, sb_26))] : mi_T), sc_P e.1 = some e.2 := mi_tb mi_P26 (mi_tb_e)
set_option maxRecDepth 20000 in
theorem ms_h1D_1 {h : sm_H} {d : Nat} {Q : Option mi_V → sm_H → Prop} {zf zt zm zk zl zy : Int} (hS : ab_Sh sx_sk h) (ok_zf : mi_in zf) (ok_zt : mi_in zt) (ok_zm : mi_in zm) (ok_zk : mi_in zk) (ok_zl : mi_in zl) (ok_zy : mi_in zy) (ho : (zy < zl)) (kon : ∀ h1, me_W [] h h1 → ∃ Q1, me_E (d + 5) 29 0 (mi_entry 2 [.inr (.inr 1), .inl (zk)]) [] h1 Q1 ∧ ∀ w h2, (∀ x, w = some x → mi_ok x) → Q1 w h2 → me_E (d + 6) 26 40 [some (.inr (.inr 52)), some (.inr (.inr 1)), some (.inl (zf)), some (.inl (zt)), some (.inl (zm)), some (.inl (zk))] (mi_back w []) h2 Q) : me_E (d + 6) 26 31 [some (.inr (.inr 52)), some (.inr (.inr 1)), some (.inl (zf)), some (.inl (zt)), some (.inl (zm)), some (.inl (zk))] [.inl (zl), .inl (zy)] h Q := mf_seg (mp_h1D_1 h d zf zt zm zk zl zy) (mi_tab_h1D_1) hS (mi_okL_c (trivial) (mi_okL_c (trivial) (mi_okL_c (ok_zf) (mi_okL_c (ok_zt) (mi_okL_c (ok_zm) (mi_okL_c (ok_zk) (mi_okL_e))))))) (mi_okS_cons (ok_zl) (mi_okS_cons (ok_zy) (mi_okS_e))) (mi_al (ho) (mi_al_e)) (fun h1 W _ hst => let ⟨_, k1, k2⟩ := kon h1 W; mf_call (M := (6, 4, sb_26)) (M' := (2, 5, sb_29)) rfl rfl rfl rfl (Nat.le_of_ble_eq_true rfl) (Nat.le_of_ble_eq_true rfl) W.1 k1 k2)
set_option maxRecDepth 20000 in
theorem mt_h1D {h : sm_H} {d : Nat} {Q : Option mi_V → sm_H → Prop} {zf zt zm zk zl zy : Int} (hS : ab_Sh sx_sk h) (ok_zf : mi_in zf) (ok_zt : mi_in zt) (ok_zm : mi_in zm) (ok_zk : mi_in zk) (ok_zl : mi_in zl) (ok_zy : mi_in zy) (k0 : (zl ≤ zy) → ((zm = 0 ∨ zm = 1)) ∧ (∀ h1, ab_Sh sx_sk h1 → ab_Fr [] h h1 → Q (some (.inl (zm))) h1)) (k1 : (zy < zl) → (∀ h1, ab_Sh sx_sk h1 → ab_Fr [] h h1 → ∃ Q1, me_E (d + 5) 29 0 (mi_entry 2 [.inr (.inr 1), .inl (zk)]) [] h1 Q1 ∧ ∀ w h2, (∀ x, w = some x → mi_ok x) → Q1 w h2 → me_E (d + 6) 26 40 [some (.inr (.inr 52)), some (.inr (.inr 1)), some (.inl (zf)), some (.inl (zt)), some (.inl (zm)), some (.inl (zk))] (mi_back w []) h2 Q)) : me_E (d + 6) 26 31 [some (.inr (.inr 52)), some (.inr (.inr 1)), some (.inl (zf)), some (.inl (zt)), some (.inl (zm)), some (.inl (zk))] [.inl (zl), .inl (zy)] h Q := Or.elim (mi_em .ge (zy) (zl)) (fun c0 => ms_h1D_0 hS ok_zf ok_zt ok_zm ok_zk ok_zl ok_zy ⟨c0, (k0 c0).1⟩ (fun h1 W => (k0 c0).2 h1 W.1 (W.2.2.2.2.2 _ rfl))) (fun c0 => ms_h1D_1 hS ok_zf ok_zt ok_zm ok_zk ok_zl ok_zy (c0) (fun h1 W => (k1 c0) h1 W.1 (W.2.2.2.2.2 _ rfl)))
set_option maxRecDepth 20000 in
theorem mp_h1E_0 (h : sm_H) (d : Nat) (zf zt zm zk zc : Int) : mj_path [(26, (6, 4, sb_26))] sx_sk h 4 [8] (d + 6, 26, 40, [some (.inr (.inr 52)), some (.inr (.inr 1)), some (.inl (zf)), some (.inl (zt)), some (.inl (zm)), some (.inl (zk))], [.inl (zc)], [], []) = some ((d + 6, 26, 45, [some (.inr (.inr 52)), some (.inr (.inr 1)), some (.inl (zf)), some (.inl (zt)), some (.inl (zm)), some (.inl (zk))], [.inl (zf + zk), .inr (.inr 52), .inl (zc)], [], []), [-2147483648 ≤ zf + zk ∧ zf + zk ≤ 2147483647]) := rfl
theorem mi_tab_h1E_0 : ∀ e ∈ ([(26, (6, 4, sb_26))] : mi_T), sc_P e.1 = some e.2 := mi_tb mi_P26 (mi_tb_e)
set_option maxRecDepth 20000 in
theorem ms_h1E_0 {h : sm_H} {d : Nat} {Q : Option mi_V → sm_H → Prop} {zf zt zm zk zc : Int} (hS : ab_Sh sx_sk h) (ok_zf : mi_in zf) (ok_zt : mi_in zt) (ok_zm : mi_in zm) (ok_zk : mi_in zk) (ok_zc : mi_in zc) (ho : (-2147483648 ≤ zf + zk ∧ zf + zk ≤ 2147483647)) (kon : ∀ h1, me_W [] h h1 → ∃ Q1, me_E (d + 5) 20 0 (mi_entry 2 [.inr (.inr 52), .inl (zf + zk)]) [] h1 Q1 ∧ ∀ w h2, (∀ x, w = some x → mi_ok x) → Q1 w h2 → me_E (d + 6) 26 48 [some (.inr (.inr 52)), some (.inr (.inr 1)), some (.inl (zf)), some (.inl (zt)), some (.inl (zm)), some (.inl (zk))] (mi_back w [.inl (zc)]) h2 Q) : me_E (d + 6) 26 40 [some (.inr (.inr 52)), some (.inr (.inr 1)), some (.inl (zf)), some (.inl (zt)), some (.inl (zm)), some (.inl (zk))] [.inl (zc)] h Q := mf_seg (mp_h1E_0 h d zf zt zm zk zc) (mi_tab_h1E_0) hS (mi_okL_c (trivial) (mi_okL_c (trivial) (mi_okL_c (ok_zf) (mi_okL_c (ok_zt) (mi_okL_c (ok_zm) (mi_okL_c (ok_zk) (mi_okL_e))))))) (mi_okS_cons (ok_zc) (mi_okS_e)) (mi_al (ho) (mi_al_e)) (fun h1 W _ hst => let ⟨_, k1, k2⟩ := kon h1 W; mf_call (M := (6, 4, sb_26)) (M' := (2, 5, sb_20)) rfl rfl rfl rfl (Nat.le_of_ble_eq_true rfl) (Nat.le_of_ble_eq_true rfl) W.1 k1 k2)
set_option maxRecDepth 20000 in
theorem mt_h1E {h : sm_H} {d : Nat} {Q : Option mi_V → sm_H → Prop} {zf zt zm zk zc : Int} (hS : ab_Sh sx_sk h) (ok_zf : mi_in zf) (ok_zt : mi_in zt) (ok_zm : mi_in zm) (ok_zk : mi_in zk) (ok_zc : mi_in zc) (k0 : ((-2147483648 ≤ zf + zk ∧ zf + zk ≤ 2147483647)) ∧ (∀ h1, ab_Sh sx_sk h1 → ab_Fr [] h h1 → ∃ Q1, me_E (d + 5) 20 0 (mi_entry 2 [.inr (.inr 52), .inl (zf + zk)]) [] h1 Q1 ∧ ∀ w h2, (∀ x, w = some x → mi_ok x) → Q1 w h2 → me_E (d + 6) 26 48 [some (.inr (.inr 52)), some (.inr (.inr 1)), some (.inl (zf)), some (.inl (zt)), some (.inl (zm)), some (.inl (zk))] (mi_back w [.inl (zc)]) h2 Q)) : me_E (d + 6) 26 40 [some (.inr (.inr 52)), some (.inr (.inr 1)), some (.inl (zf)), some (.inl (zt)), some (.inl (zm)), some (.inl (zk))] [.inl (zc)] h Q := ms_h1E_0 hS ok_zf ok_zt ok_zm ok_zk ok_zc ((k0).1) (fun h1 W => (k0).2 h1 W.1 (W.2.2.2.2.2 _ rfl))
set_option maxRecDepth 20000 in
theorem mp_h1F_0 (h : sm_H) (d : Nat) (zf zt zm zk zz zc : Int) : mj_path [(26, (6, 4, sb_26))] sx_sk h 5 [1] (d + 6, 26, 48, [some (.inr (.inr 52)), some (.inr (.inr 1)), some (.inl (zf)), some (.inl (zt)), some (.inl (zm)), some (.inl (zk))], [.inl (zz), .inl (zc)], [], []) = some ((d + 6, 26, 20, [some (.inr (.inr 52)), some (.inr (.inr 1)), some (.inl (zf)), some (.inl (zt)), some (.inl ((0 : Int))), some (.inl (zk + 1))], [], [], []), [zc ≠ zz, -2147483648 ≤ zk + 1 ∧ zk + 1 ≤ 2147483647]) := rfl
theorem mi_tab_h1F_0 : ∀ e ∈ ([(26, (6, 4, sb_26))] : mi_T), sc_P e.1 = some e.2 := mi_tb mi_P26 (mi_tb_e)
set_option maxRecDepth 20000 in
theorem ms_h1F_0 {h : sm_H} {d : Nat} {Q : Option mi_V → sm_H → Prop} {zf zt zm zk zz zc : Int} (hS : ab_Sh sx_sk h) (ok_zf : mi_in zf) (ok_zt : mi_in zt) (ok_zm : mi_in zm) (ok_zk : mi_in zk) (ok_zz : mi_in zz) (ok_zc : mi_in zc) (ho : (zc ≠ zz) ∧ (-2147483648 ≤ zk + 1 ∧ zk + 1 ≤ 2147483647)) (kon : ∀ h1, me_W [] h h1 → me_E (d + 6) 26 20 [some (.inr (.inr 52)), some (.inr (.inr 1)), some (.inl (zf)), some (.inl (zt)), some (.inl ((0 : Int))), some (.inl (zk + 1))] [] h1 Q) : me_E (d + 6) 26 48 [some (.inr (.inr 52)), some (.inr (.inr 1)), some (.inl (zf)), some (.inl (zt)), some (.inl (zm)), some (.inl (zk))] [.inl (zz), .inl (zc)] h Q := mf_seg (mp_h1F_0 h d zf zt zm zk zz zc) (mi_tab_h1F_0) hS (mi_okL_c (trivial) (mi_okL_c (trivial) (mi_okL_c (ok_zf) (mi_okL_c (ok_zt) (mi_okL_c (ok_zm) (mi_okL_c (ok_zk) (mi_okL_e))))))) (mi_okS_cons (ok_zz) (mi_okS_cons (ok_zc) (mi_okS_e))) (mi_al (ho.1) (mi_al (ho.2) (mi_al_e))) (fun h1 W _ hst => kon h1 W)
set_option maxRecDepth 20000 in
theorem mp_h1F_1 (h : sm_H) (d : Nat) (zf zt zm zk zz zc : Int) : mj_path [(26, (6, 4, sb_26))] sx_sk h 6 [0] (d + 6, 26, 48, [some (.inr (.inr 52)), some (.inr (.inr 1)), some (.inl (zf)), some (.inl (zt)), some (.inl (zm)), some (.inl (zk))], [.inl (zz), .inl (zc)], [], []) = some ((d + 6, 26, 20, [some (.inr (.inr 52)), some (.inr (.inr 1)), some (.inl (zf)), some (.inl (zt)), some (.inl ((1 : Int))), some (.inl (zk + 1))], [], [], []), [zc = zz, -2147483648 ≤ zk + 1 ∧ zk + 1 ≤ 2147483647]) := rfl
theorem mi_tab_h1F_1 : ∀ e ∈ ([(26, (6, 4, sb_26))] : mi_T), sc_P e.1 = some e.2 := mi_tb mi_P26 (mi_tb_e)
set_option maxRecDepth 20000 in
theorem ms_h1F_1 {h : sm_H} {d : Nat} {Q : Option mi_V → sm_H → Prop} {zf zt zm zk zz zc : Int} (hS : ab_Sh sx_sk h) (ok_zf : mi_in zf) (ok_zt : mi_in zt) (ok_zm : mi_in zm) (ok_zk : mi_in zk) (ok_zz : mi_in zz) (ok_zc : mi_in zc) (ho : (zc = zz) ∧ (-2147483648 ≤ zk + 1 ∧ zk + 1 ≤ 2147483647)) (kon : ∀ h1, me_W [] h h1 → me_E (d + 6) 26 20 [some (.inr (.inr 52)), some (.inr (.inr 1)), some (.inl (zf)), some (.inl (zt)), some (.inl ((1 : Int))), some (.inl (zk + 1))] [] h1 Q) : me_E (d + 6) 26 48 [some (.inr (.inr 52)), some (.inr (.inr 1)), some (.inl (zf)), some (.inl (zt)), some (.inl (zm)), some (.inl (zk))] [.inl (zz), .inl (zc)] h Q := mf_seg (mp_h1F_1 h d zf zt zm zk zz zc) (mi_tab_h1F_1) hS (mi_okL_c (trivial) (mi_okL_c (trivial) (mi_okL_c (ok_zf) (mi_okL_c (ok_zt) (mi_okL_c (ok_zm) (mi_okL_c (ok_zk) (mi_okL_e))))))) (mi_okS_cons (ok_zz) (mi_okS_cons (ok_zc) (mi_okS_e))) (mi_al (ho.1) (mi_al (ho.2) (mi_al_e))) (fun h1 W _ hst => kon h1 W)
set_option maxRecDepth 20000 in
theorem mt_h1F {h : sm_H} {d : Nat} {Q : Option mi_V → sm_H → Prop} {zf zt zm zk zz zc : Int} (hS : ab_Sh sx_sk h) (ok_zf : mi_in zf) (ok_zt : mi_in zt) (ok_zm : mi_in zm) (ok_zk : mi_in zk) (ok_zz : mi_in zz) (ok_zc : mi_in zc) (k0 : (zc ≠ zz) → ((-2147483648 ≤ zk + 1 ∧ zk + 1 ≤ 2147483647)) ∧ (∀ h1, ab_Sh sx_sk h1 → ab_Fr [] h h1 → me_E (d + 6) 26 20 [some (.inr (.inr 52)), some (.inr (.inr 1)), some (.inl (zf)), some (.inl (zt)), some (.inl ((0 : Int))), some (.inl (zk + 1))] [] h1 Q)) (k1 : (zc = zz) → ((-2147483648 ≤ zk + 1 ∧ zk + 1 ≤ 2147483647)) ∧ (∀ h1, ab_Sh sx_sk h1 → ab_Fr [] h h1 → me_E (d + 6) 26 20 [some (.inr (.inr 52)), some (.inr (.inr 1)), some (.inl (zf)), some (.inl (zt)), some (.inl ((1 : Int))), some (.inl (zk + 1))] [] h1 Q)) : me_E (d + 6) 26 48 [some (.inr (.inr 52)), some (.inr (.inr 1)), some (.inl (zf)), some (.inl (zt)), some (.inl (zm)), some (.inl (zk))] [.inl (zz), .inl (zc)] h Q := Or.elim (mi_em .ne (zc) (zz)) (fun c0 => ms_h1F_0 hS ok_zf ok_zt ok_zm ok_zk ok_zz ok_zc ⟨c0, (k0 c0).1⟩ (fun h1 W => (k0 c0).2 h1 W.1 (W.2.2.2.2.2 _ rfl))) (fun c0 => ms_h1F_1 hS ok_zf ok_zt ok_zm ok_zk ok_zz ok_zc ⟨c0, (k1 c0).1⟩ (fun h1 W => (k1 c0).2 h1 W.1 (W.2.2.2.2.2 _ rfl)))
set_option maxRecDepth 20000 in
theorem mp_h2A_0 (h : sm_H) (d : Nat) (zf zt : Int) : mj_path [(26, (6, 4, sb_26))] sx_sk h 4 [8] (d + 6, 26, 0, [some (.inr (.inr 52)), some (.inr (.inr 2)), some (.inl (zf)), some (.inl (zt)), none, none], [], [], []) = some ((d + 6, 26, 4, [some (.inr (.inr 52)), some (.inr (.inr 2)), some (.inl (zf)), some (.inl (zt)), none, none], [.inr (.inr 2), .inl (zt - zf)], [], []), [-2147483648 ≤ zt - zf ∧ zt - zf ≤ 2147483647]) := rfl
theorem mi_tab_h2A_0 : ∀ e ∈ ([(26, (6, 4, sb_26))] : mi_T), sc_P e.1 = some e.2 := mi_tb mi_P26 (mi_tb_e)
set_option maxRecDepth 20000 in
theorem ms_h2A_0 {h : sm_H} {d : Nat} {Q : Option mi_V → sm_H → Prop} {zf zt : Int} (hS : ab_Sh sx_sk h) (ok_zf : mi_in zf) (ok_zt : mi_in zt) (ho : (-2147483648 ≤ zt - zf ∧ zt - zf ≤ 2147483647)) (kon : ∀ h1, me_W [] h h1 → ∃ Q1, me_E (d + 5) 27 0 (mi_entry 1 [.inr (.inr 2)]) [] h1 Q1 ∧ ∀ w h2, (∀ x, w = some x → mi_ok x) → Q1 w h2 → me_E (d + 6) 26 7 [some (.inr (.inr 52)), some (.inr (.inr 2)), some (.inl (zf)), some (.inl (zt)), none, none] (mi_back w [.inl (zt - zf)]) h2 Q) : me_E (d + 6) 26 0 [some (.inr (.inr 52)), some (.inr (.inr 2)), some (.inl (zf)), some (.inl (zt)), none, none] [] h Q := mf_seg (mp_h2A_0 h d zf zt) (mi_tab_h2A_0) hS (mi_okL_c (trivial) (mi_okL_c (trivial) (mi_okL_c (ok_zf) (mi_okL_c (ok_zt) (mi_okL_n (mi_okL_n (mi_okL_e))))))) (mi_okS_e) (mi_al (ho) (mi_al_e)) (fun h1 W _ hst => let ⟨_, k1, k2⟩ := kon h1 W; mf_call (M := (6, 4, sb_26)) (M' := (1, 1, sb_27)) rfl rfl rfl rfl (Nat.le_of_ble_eq_true rfl) (Nat.le_of_ble_eq_true rfl) W.1 k1 k2)
set_option maxRecDepth 20000 in
theorem mt_h2A {h : sm_H} {d : Nat} {Q : Option mi_V → sm_H → Prop} {zf zt : Int} (hS : ab_Sh sx_sk h) (ok_zf : mi_in zf) (ok_zt : mi_in zt) (k0 : ((-2147483648 ≤ zt - zf ∧ zt - zf ≤ 2147483647)) ∧ (∀ h1, ab_Sh sx_sk h1 → ab_Fr [] h h1 → ∃ Q1, me_E (d + 5) 27 0 (mi_entry 1 [.inr (.inr 2)]) [] h1 Q1 ∧ ∀ w h2, (∀ x, w = some x → mi_ok x) → Q1 w h2 → me_E (d + 6) 26 7 [some (.inr (.inr 52)), some (.inr (.inr 2)), some (.inl (zf)), some (.inl (zt)), none, none] (mi_back w [.inl (zt - zf)]) h2 Q)) : me_E (d + 6) 26 0 [some (.inr (.inr 52)), some (.inr (.inr 2)), some (.inl (zf)), some (.inl (zt)), none, none] [] h Q := ms_h2A_0 hS ok_zf ok_zt ((k0).1) (fun h1 W => (k0).2 h1 W.1 (W.2.2.2.2.2 _ rfl))
set_option maxRecDepth 20000 in
theorem mp_h2B_0 (h : sm_H) (d : Nat) (zf zt zl zs : Int) : mj_path [(26, (6, 4, sb_26))] sx_sk h 5 [1] (d + 6, 26, 7, [some (.inr (.inr 52)), some (.inr (.inr 2)), some (.inl (zf)), some (.inl (zt)), none, none], [.inl (zl), .inl (zs)], [], []) = some ((d + 6, 26, 20, [some (.inr (.inr 52)), some (.inr (.inr 2)), some (.inl (zf)), some (.inl (zt)), some (.inl ((0 : Int))), some (.inl ((0 : Int)))], [], [], []), [zs ≠ zl]) := rfl
theorem mi_tab_h2B_0 : ∀ e ∈ ([(26, (6, 4, sb_26))] : mi_T), sc_P e.1 = some e.2 := mi_tb mi_P26 (mi_tb_e)
set_option maxRecDepth 20000 in
theorem ms_h2B_0 {h : sm_H} {d : Nat} {Q : Option mi_V → sm_H → Prop} {zf zt zl zs : Int} (hS : ab_Sh sx_sk h) (ok_zf : mi_in zf) (ok_zt : mi_in zt) (ok_zl : mi_in zl) (ok_zs : mi_in zs) (ho : (zs ≠ zl)) (kon : ∀ h1, me_W [] h h1 → me_E (d + 6) 26 20 [some (.inr (.inr 52)), some (.inr (.inr 2)), some (.inl (zf)), some (.inl (zt)), some (.inl ((0 : Int))), some (.inl ((0 : Int)))] [] h1 Q) : me_E (d + 6) 26 7 [some (.inr (.inr 52)), some (.inr (.inr 2)), some (.inl (zf)), some (.inl (zt)), none, none] [.inl (zl), .inl (zs)] h Q := mf_seg (mp_h2B_0 h d zf zt zl zs) (mi_tab_h2B_0) hS (mi_okL_c (trivial) (mi_okL_c (trivial) (mi_okL_c (ok_zf) (mi_okL_c (ok_zt) (mi_okL_n (mi_okL_n (mi_okL_e))))))) (mi_okS_cons (ok_zl) (mi_okS_cons (ok_zs) (mi_okS_e))) (mi_al (ho) (mi_al_e)) (fun h1 W _ hst => kon h1 W)
set_option maxRecDepth 20000 in
theorem mp_h2B_1 (h : sm_H) (d : Nat) (zf zt zl zs : Int) : mj_path [(26, (6, 4, sb_26))] sx_sk h 6 [0] (d + 6, 26, 7, [some (.inr (.inr 52)), some (.inr (.inr 2)), some (.inl (zf)), some (.inl (zt)), none, none], [.inl (zl), .inl (zs)], [], []) = some ((d + 6, 26, 20, [some (.inr (.inr 52)), some (.inr (.inr 2)), some (.inl (zf)), some (.inl (zt)), some (.inl ((1 : Int))), some (.inl ((0 : Int)))], [], [], []), [zs = zl]) := rfl
theorem mi_tab_h2B_1 : ∀ e ∈ ([(26, (6, 4, sb_26))] : mi_T), sc_P e.1 = some e.2 := mi_tb mi_P26 (mi_tb_e)
set_option maxRecDepth 20000 in
theorem ms_h2B_1 {h : sm_H} {d : Nat} {Q : Option mi_V → sm_H → Prop} {zf zt zl zs : Int} (hS : ab_Sh sx_sk h) (ok_zf : mi_in zf) (ok_zt : mi_in zt) (ok_zl : mi_in zl) (ok_zs : mi_in zs) (ho : (zs = zl)) (kon : ∀ h1, me_W [] h h1 → me_E (d + 6) 26 20 [some (.inr (.inr 52)), some (.inr (.inr 2)), some (.inl (zf)), some (.inl (zt)), some (.inl ((1 : Int))), some (.inl ((0 : Int)))] [] h1 Q) : me_E (d + 6) 26 7 [some (.inr (.inr 52)), some (.inr (.inr 2)), some (.inl (zf)), some (.inl (zt)), none, none] [.inl (zl), .inl (zs)] h Q := mf_seg (mp_h2B_1 h d zf zt zl zs) (mi_tab_h2B_1) hS (mi_okL_c (trivial) (mi_okL_c (trivial) (mi_okL_c (ok_zf) (mi_okL_c (ok_zt) (mi_okL_n (mi_okL_n (mi_okL_e))))))) (mi_okS_cons (ok_zl) (mi_okS_cons (ok_zs) (mi_okS_e))) (mi_al (ho) (mi_al_e)) (fun h1 W _ hst => kon h1 W)
set_option maxRecDepth 20000 in
theorem mt_h2B {h : sm_H} {d : Nat} {Q : Option mi_V → sm_H → Prop} {zf zt zl zs : Int} (hS : ab_Sh sx_sk h) (ok_zf : mi_in zf) (ok_zt : mi_in zt) (ok_zl : mi_in zl) (ok_zs : mi_in zs) (k0 : (zs ≠ zl) → (∀ h1, ab_Sh sx_sk h1 → ab_Fr [] h h1 → me_E (d + 6) 26 20 [some (.inr (.inr 52)), some (.inr (.inr 2)), some (.inl (zf)), some (.inl (zt)), some (.inl ((0 : Int))), some (.inl ((0 : Int)))] [] h1 Q)) (k1 : (zs = zl) → (∀ h1, ab_Sh sx_sk h1 → ab_Fr [] h h1 → me_E (d + 6) 26 20 [some (.inr (.inr 52)), some (.inr (.inr 2)), some (.inl (zf)), some (.inl (zt)), some (.inl ((1 : Int))), some (.inl ((0 : Int)))] [] h1 Q)) : me_E (d + 6) 26 7 [some (.inr (.inr 52)), some (.inr (.inr 2)), some (.inl (zf)), some (.inl (zt)), none, none] [.inl (zl), .inl (zs)] h Q := Or.elim (mi_em .ne (zs) (zl)) (fun c0 => ms_h2B_0 hS ok_zf ok_zt ok_zl ok_zs (c0) (fun h1 W => (k0 c0) h1 W.1 (W.2.2.2.2.2 _ rfl))) (fun c0 => ms_h2B_1 hS ok_zf ok_zt ok_zl ok_zs (c0) (fun h1 W => (k1 c0) h1 W.1 (W.2.2.2.2.2 _ rfl)))
set_option maxRecDepth 20000 in
theorem mp_h2C_0 (h : sm_H) (d : Nat) (zf zt zm zk : Int) : mj_path [(26, (6, 4, sb_26))] sx_sk h 3 [1] (d + 6, 26, 20, [some (.inr (.inr 52)), some (.inr (.inr 2)), some (.inl (zf)), some (.inl (zt)), some (.inl (zm)), some (.inl (zk))], [], [], []) = some ((d + 6, 26, 66, [some (.inr (.inr 52)), some (.inr (.inr 2)), some (.inl (zf)), some (.inl (zt)), some (.inl (zm)), some (.inl (zk))], [.inl (zm)], [], []), [zm = ((0 : Int))]) := rfl
theorem mi_tab_h2C_0 : ∀ e ∈ ([(26, (6, 4, sb_26))] : mi_T), sc_P e.1 = some e.2 := mi_tb mi_P26 (mi_tb_e)
set_option maxRecDepth 20000 in
theorem ms_h2C_0 {h : sm_H} {d : Nat} {Q : Option mi_V → sm_H → Prop} {zf zt zm zk : Int} (hS : ab_Sh sx_sk h) (ok_zf : mi_in zf) (ok_zt : mi_in zt) (ok_zm : mi_in zm) (ok_zk : mi_in zk) (ho : (zm = ((0 : Int))) ∧ (zm = 0 ∨ zm = 1)) (kon : ∀ h1, me_W [] h h1 → Q (some (.inl (zm))) h1) : me_E (d + 6) 26 20 [some (.inr (.inr 52)), some (.inr (.inr 2)), some (.inl (zf)), some (.inl (zt)), some (.inl (zm)), some (.inl (zk))] [] h Q := mf_seg (mp_h2C_0 h d zf zt zm zk) (mi_tab_h2C_0) hS (mi_okL_c (trivial) (mi_okL_c (trivial) (mi_okL_c (ok_zf) (mi_okL_c (ok_zt) (mi_okL_c (ok_zm) (mi_okL_c (ok_zk) (mi_okL_e))))))) (mi_okS_e) (mi_al (ho.1) (mi_al_e)) (fun h1 W _ hst => mf_ret (M := (6, 4, sb_26)) rfl rfl rfl hst (mi_al (ho.2) mi_al_e) (kon h1 W))
set_option maxRecDepth 20000 in
theorem mp_h2C_1 (h : sm_H) (d : Nat) (zf zt zm zk : Int) : mj_path [(26, (6, 4, sb_26))] sx_sk h 4 [0] (d + 6, 26, 20, [some (.inr (.inr 52)), some (.inr (.inr 2)), some (.inl (zf)), some (.inl (zt)), some (.inl (zm)), some (.inl (zk))], [], [], []) = some ((d + 6, 26, 28, [some (.inr (.inr 52)), some (.inr (.inr 2)), some (.inl (zf)), some (.inl (zt)), some (.inl (zm)), some (.inl (zk))], [.inr (.inr 2), .inl (zk)], [], []), [zm ≠ ((0 : Int))]) := rfl
theorem mi_tab_h2C_1 : ∀ e ∈ ([(26, (6, 4, sb_26))] : mi_T), sc_P e.1 = some e.2 := mi_tb mi_P26 (mi_tb_e)
set_option maxRecDepth 20000 in
theorem ms_h2C_1 {h : sm_H} {d : Nat} {Q : Option mi_V → sm_H → Prop} {zf zt zm zk : Int} (hS : ab_Sh sx_sk h) (ok_zf : mi_in zf) (ok_zt : mi_in zt) (ok_zm : mi_in zm) (ok_zk : mi_in zk) (ho : (zm ≠ ((0 : Int)))) (kon : ∀ h1, me_W [] h h1 → ∃ Q1, me_E (d + 5) 27 0 (mi_entry 1 [.inr (.inr 2)]) [] h1 Q1 ∧ ∀ w h2, (∀ x, w = some x → mi_ok x) → Q1 w h2 → me_E (d + 6) 26 31 [some (.inr (.inr 52)), some (.inr (.inr 2)), some (.inl (zf)), some (.inl (zt)), some (.inl (zm)), some (.inl (zk))] (mi_back w [.inl (zk)]) h2 Q) : me_E (d + 6) 26 20 [some (.inr (.inr 52)), some (.inr (.inr 2)), some (.inl (zf)), some (.inl (zt)), some (.inl (zm)), some (.inl (zk))] [] h Q := mf_seg (mp_h2C_1 h d zf zt zm zk) (mi_tab_h2C_1) hS (mi_okL_c (trivial) (mi_okL_c (trivial) (mi_okL_c (ok_zf) (mi_okL_c (ok_zt) (mi_okL_c (ok_zm) (mi_okL_c (ok_zk) (mi_okL_e))))))) (mi_okS_e) (mi_al (ho) (mi_al_e)) (fun h1 W _ hst => let ⟨_, k1, k2⟩ := kon h1 W; mf_call (M := (6, 4, sb_26)) (M' := (1, 1, sb_27)) rfl rfl rfl rfl (Nat.le_of_ble_eq_true rfl) (Nat.le_of_ble_eq_true rfl) W.1 k1 k2)
set_option maxRecDepth 20000 in
theorem mt_h2C {h : sm_H} {d : Nat} {Q : Option mi_V → sm_H → Prop} {zf zt zm zk : Int} (hS : ab_Sh sx_sk h) (ok_zf : mi_in zf) (ok_zt : mi_in zt) (ok_zm : mi_in zm) (ok_zk : mi_in zk) (k0 : (zm = ((0 : Int))) → ((zm = 0 ∨ zm = 1)) ∧ (∀ h1, ab_Sh sx_sk h1 → ab_Fr [] h h1 → Q (some (.inl (zm))) h1)) (k1 : (zm ≠ ((0 : Int))) → (∀ h1, ab_Sh sx_sk h1 → ab_Fr [] h h1 → ∃ Q1, me_E (d + 5) 27 0 (mi_entry 1 [.inr (.inr 2)]) [] h1 Q1 ∧ ∀ w h2, (∀ x, w = some x → mi_ok x) → Q1 w h2 → me_E (d + 6) 26 31 [some (.inr (.inr 52)), some (.inr (.inr 2)), some (.inl (zf)), some (.inl (zt)), some (.inl (zm)), some (.inl (zk))] (mi_back w [.inl (zk)]) h2 Q)) : me_E (d + 6) 26 20 [some (.inr (.inr 52)), some (.inr (.inr 2)), some (.inl (zf)), some (.inl (zt)), some (.inl (zm)), some (.inl (zk))] [] h Q := Or.elim (mi_em .eq (zm) (((0 : Int)))) (fun c0 => ms_h2C_0 hS ok_zf ok_zt ok_zm ok_zk ⟨c0, (k0 c0).1⟩ (fun h1 W => (k0 c0).2 h1 W.1 (W.2.2.2.2.2 _ rfl))) (fun c0 => ms_h2C_1 hS ok_zf ok_zt ok_zm ok_zk (c0) (fun h1 W => (k1 c0) h1 W.1 (W.2.2.2.2.2 _ rfl)))
set_option maxRecDepth 20000 in
theorem mp_h2D_0 (h : sm_H) (d : Nat) (zf zt zm zk zl zy : Int) : mj_path [(26, (6, 4, sb_26))] sx_sk h 2 [1] (d + 6, 26, 31, [some (.inr (.inr 52)), some (.inr (.inr 2)), some (.inl (zf)), some (.inl (zt)), some (.inl (zm)), some (.inl (zk))], [.inl (zl), .inl (zy)], [], []) = some ((d + 6, 26, 66, [some (.inr (.inr 52)), some (.inr (.inr 2)), some (.inl (zf)), some (.inl (zt)), some (.inl (zm)), some (.inl (zk))], [.inl (zm)], [], []), [zl ≤ zy]) := rfl
theorem mi_tab_h2D_0 : ∀ e ∈ ([(26, (6, 4, sb_26))] : mi_T), sc_P e.1 = some e.2 := mi_tb mi_P26 (mi_tb_e)
set_option maxRecDepth 20000 in
theorem ms_h2D_0 {h : sm_H} {d : Nat} {Q : Option mi_V → sm_H → Prop} {zf zt zm zk zl zy : Int} (hS : ab_Sh sx_sk h) (ok_zf : mi_in zf) (ok_zt : mi_in zt) (ok_zm : mi_in zm) (ok_zk : mi_in zk) (ok_zl : mi_in zl) (ok_zy : mi_in zy) (ho : (zl ≤ zy) ∧ (zm = 0 ∨ zm = 1)) (kon : ∀ h1, me_W [] h h1 → Q (some (.inl (zm))) h1) : me_E (d + 6) 26 31 [some (.inr (.inr 52)), some (.inr (.inr 2)), some (.inl (zf)), some (.inl (zt)), some (.inl (zm)), some (.inl (zk))] [.inl (zl), .inl (zy)] h Q := mf_seg (mp_h2D_0 h d zf zt zm zk zl zy) (mi_tab_h2D_0) hS (mi_okL_c (trivial) (mi_okL_c (trivial) (mi_okL_c (ok_zf) (mi_okL_c (ok_zt) (mi_okL_c (ok_zm) (mi_okL_c (ok_zk) (mi_okL_e))))))) (mi_okS_cons (ok_zl) (mi_okS_cons (ok_zy) (mi_okS_e))) (mi_al (ho.1) (mi_al_e)) (fun h1 W _ hst => mf_ret (M := (6, 4, sb_26)) rfl rfl rfl hst (mi_al (ho.2) mi_al_e) (kon h1 W))
set_option maxRecDepth 20000 in
theorem mp_h2D_1 (h : sm_H) (d : Nat) (zf zt zm zk zl zy : Int) : mj_path [(26, (6, 4, sb_26))] sx_sk h 3 [0] (d + 6, 26, 31, [some (.inr (.inr 52)), some (.inr (.inr 2)), some (.inl (zf)), some (.inl (zt)), some (.inl (zm)), some (.inl (zk))], [.inl (zl), .inl (zy)], [], []) = some ((d + 6, 26, 37, [some (.inr (.inr 52)), some (.inr (.inr 2)), some (.inl (zf)), some (.inl (zt)), some (.inl (zm)), some (.inl (zk))], [.inl (zk), .inr (.inr 2)], [], []), [zy < zl]) := rfl
theorem mi_tab_h2D_1 : ∀ e ∈ ([(26, (6, 4, sb_26))] : mi_T), sc_P e.1 = some e.2 := mi_tb mi_P26 (mi_tb_e)
set_option maxRecDepth 20000 in
theorem ms_h2D_1 {h : sm_H} {d : Nat} {Q : Option mi_V → sm_H → Prop} {zf zt zm zk zl zy : Int} (hS : ab_Sh sx_sk h) (ok_zf : mi_in zf) (ok_zt : mi_in zt) (ok_zm : mi_in zm) (ok_zk : mi_in zk) (ok_zl : mi_in zl) (ok_zy : mi_in zy) (ho : (zy < zl)) (kon : ∀ h1, me_W [] h h1 → ∃ Q1, me_E (d + 5) 29 0 (mi_entry 2 [.inr (.inr 2), .inl (zk)]) [] h1 Q1 ∧ ∀ w h2, (∀ x, w = some x → mi_ok x) → Q1 w h2 → me_E (d + 6) 26 40 [some (.inr (.inr 52)), some (.inr (.inr 2)), some (.inl (zf)), some (.inl (zt)), some (.inl (zm)), some (.inl (zk))] (mi_back w []) h2 Q) : me_E (d + 6) 26 31 [some (.inr (.inr 52)), some (.inr (.inr 2)), some (.inl (zf)), some (.inl (zt)), some (.inl (zm)), some (.inl (zk))] [.inl (zl), .inl (zy)] h Q := mf_seg (mp_h2D_1 h d zf zt zm zk zl zy) (mi_tab_h2D_1) hS (mi_okL_c (trivial) (mi_okL_c (trivial) (mi_okL_c (ok_zf) (mi_okL_c (ok_zt) (mi_okL_c (ok_zm) (mi_okL_c (ok_zk) (mi_okL_e))))))) (mi_okS_cons (ok_zl) (mi_okS_cons (ok_zy) (mi_okS_e))) (mi_al (ho) (mi_al_e)) (fun h1 W _ hst => let ⟨_, k1, k2⟩ := kon h1 W; mf_call (M := (6, 4, sb_26)) (M' := (2, 5, sb_29)) rfl rfl rfl rfl (Nat.le_of_ble_eq_true rfl) (Nat.le_of_ble_eq_true rfl) W.1 k1 k2)
set_option maxRecDepth 20000 in
theorem mt_h2D {h : sm_H} {d : Nat} {Q : Option mi_V → sm_H → Prop} {zf zt zm zk zl zy : Int} (hS : ab_Sh sx_sk h) (ok_zf : mi_in zf) (ok_zt : mi_in zt) (ok_zm : mi_in zm) (ok_zk : mi_in zk) (ok_zl : mi_in zl) (ok_zy : mi_in zy) (k0 : (zl ≤ zy) → ((zm = 0 ∨ zm = 1)) ∧ (∀ h1, ab_Sh sx_sk h1 → ab_Fr [] h h1 → Q (some (.inl (zm))) h1)) (k1 : (zy < zl) → (∀ h1, ab_Sh sx_sk h1 → ab_Fr [] h h1 → ∃ Q1, me_E (d + 5) 29 0 (mi_entry 2 [.inr (.inr 2), .inl (zk)]) [] h1 Q1 ∧ ∀ w h2, (∀ x, w = some x → mi_ok x) → Q1 w h2 → me_E (d + 6) 26 40 [some (.inr (.inr 52)), some (.inr (.inr 2)), some (.inl (zf)), some (.inl (zt)), some (.inl (zm)), some (.inl (zk))] (mi_back w []) h2 Q)) : me_E (d + 6) 26 31 [some (.inr (.inr 52)), some (.inr (.inr 2)), some (.inl (zf)), some (.inl (zt)), some (.inl (zm)), some (.inl (zk))] [.inl (zl), .inl (zy)] h Q := Or.elim (mi_em .ge (zy) (zl)) (fun c0 => ms_h2D_0 hS ok_zf ok_zt ok_zm ok_zk ok_zl ok_zy ⟨c0, (k0 c0).1⟩ (fun h1 W => (k0 c0).2 h1 W.1 (W.2.2.2.2.2 _ rfl))) (fun c0 => ms_h2D_1 hS ok_zf ok_zt ok_zm ok_zk ok_zl ok_zy (c0) (fun h1 W => (k1 c0) h1 W.1 (W.2.2.2.2.2 _ rfl)))
set_option maxRecDepth 20000 in
theorem mp_h2E_0 (h : sm_H) (d : Nat) (zf zt zm zk zc : Int) : mj_path [(26, (6, 4, sb_26))] sx_sk h 4 [8] (d + 6, 26, 40, [some (.inr (.inr 52)), some (.inr (.inr 2)), some (.inl (zf)), some (.inl (zt)), some (.inl (zm)), some (.inl (zk))], [.inl (zc)], [], []) = some ((d + 6, 26, 45, [some (.inr (.inr 52)), some (.inr (.inr 2)), some (.inl (zf)), some (.inl (zt)), some (.inl (zm)), some (.inl (zk))], [.inl (zf + zk), .inr (.inr 52), .inl (zc)], [], []), [-2147483648 ≤ zf + zk ∧ zf + zk ≤ 2147483647]) := rfl
theorem mi_tab_h2E_0 : ∀ e ∈ ([(26, (6, 4, sb_26))] : mi_T), sc_P e.1 = some e.2 := mi_tb mi_P26 (mi_tb_e)
set_option maxRecDepth 20000 in
theorem ms_h2E_0 {h : sm_H} {d : Nat} {Q : Option mi_V → sm_H → Prop} {zf zt zm zk zc : Int} (hS : ab_Sh sx_sk h) (ok_zf : mi_in zf) (ok_zt : mi_in zt) (ok_zm : mi_in zm) (ok_zk : mi_in zk) (ok_zc : mi_in zc) (ho : (-2147483648 ≤ zf + zk ∧ zf + zk ≤ 2147483647)) (kon : ∀ h1, me_W [] h h1 → ∃ Q1, me_E (d + 5) 20 0 (mi_entry 2 [.inr (.inr 52), .inl (zf + zk)]) [] h1 Q1 ∧ ∀ w h2, (∀ x, w = some x → mi_ok x) → Q1 w h2 → me_E (d + 6) 26 48 [some (.inr (.inr 52)), some (.inr (.inr 2)), some (.inl (zf)), some (.inl (zt)), some (.inl (zm)), some (.inl (zk))] (mi_back w [.inl (zc)]) h2 Q) : me_E (d + 6) 26 40 [some (.inr (.inr 52)), some (.inr (.inr 2)), some (.inl (zf)), some (.inl (zt)), some (.inl (zm)), some (.inl (zk))] [.inl (zc)] h Q := mf_seg (mp_h2E_0 h d zf zt zm zk zc) (mi_tab_h2E_0) hS (mi_okL_c (trivial) (mi_okL_c (trivial) (mi_okL_c (ok_zf) (mi_okL_c (ok_zt) (mi_okL_c (ok_zm) (mi_okL_c (ok_zk) (mi_okL_e))))))) (mi_okS_cons (ok_zc) (mi_okS_e)) (mi_al (ho) (mi_al_e)) (fun h1 W _ hst => let ⟨_, k1, k2⟩ := kon h1 W; mf_call (M := (6, 4, sb_26)) (M' := (2, 5, sb_20)) rfl rfl rfl rfl (Nat.le_of_ble_eq_true rfl) (Nat.le_of_ble_eq_true rfl) W.1 k1 k2)
set_option maxRecDepth 20000 in
theorem mt_h2E {h : sm_H} {d : Nat} {Q : Option mi_V → sm_H → Prop} {zf zt zm zk zc : Int} (hS : ab_Sh sx_sk h) (ok_zf : mi_in zf) (ok_zt : mi_in zt) (ok_zm : mi_in zm) (ok_zk : mi_in zk) (ok_zc : mi_in zc) (k0 : ((-2147483648 ≤ zf + zk ∧ zf + zk ≤ 2147483647)) ∧ (∀ h1, ab_Sh sx_sk h1 → ab_Fr [] h h1 → ∃ Q1, me_E (d + 5) 20 0 (mi_entry 2 [.inr (.inr 52), .inl (zf + zk)]) [] h1 Q1 ∧ ∀ w h2, (∀ x, w = some x → mi_ok x) → Q1 w h2 → me_E (d + 6) 26 48 [some (.inr (.inr 52)), some (.inr (.inr 2)), some (.inl (zf)), some (.inl (zt)), some (.inl (zm)), some (.inl (zk))] (mi_back w [.inl (zc)]) h2 Q)) : me_E (d + 6) 26 40 [some (.inr (.inr 52)), some (.inr (.inr 2)), some (.inl (zf)), some (.inl (zt)), some (.inl (zm)), some (.inl (zk))] [.inl (zc)] h Q := ms_h2E_0 hS ok_zf ok_zt ok_zm ok_zk ok_zc ((k0).1) (fun h1 W => (k0).2 h1 W.1 (W.2.2.2.2.2 _ rfl))
set_option maxRecDepth 20000 in
theorem mp_h2F_0 (h : sm_H) (d : Nat) (zf zt zm zk zz zc : Int) : mj_path [(26, (6, 4, sb_26))] sx_sk h 5 [1] (d + 6, 26, 48, [some (.inr (.inr 52)), some (.inr (.inr 2)), some (.inl (zf)), some (.inl (zt)), some (.inl (zm)), some (.inl (zk))], [.inl (zz), .inl (zc)], [], []) = some ((d + 6, 26, 20, [some (.inr (.inr 52)), some (.inr (.inr 2)), some (.inl (zf)), some (.inl (zt)), some (.inl ((0 : Int))), some (.inl (zk + 1))], [], [], []), [zc ≠ zz, -2147483648 ≤ zk + 1 ∧ zk + 1 ≤ 2147483647]) := rfl
theorem mi_tab_h2F_0 : ∀ e ∈ ([(26, (6, 4, sb_26))] : mi_T), sc_P e.1 = some e.2 := mi_tb mi_P26 (mi_tb_e)
set_option maxRecDepth 20000 in
theorem ms_h2F_0 {h : sm_H} {d : Nat} {Q : Option mi_V → sm_H → Prop} {zf zt zm zk zz zc : Int} (hS : ab_Sh sx_sk h) (ok_zf : mi_in zf) (ok_zt : mi_in zt) (ok_zm : mi_in zm) (ok_zk : mi_in zk) (ok_zz : mi_in zz) (ok_zc : mi_in zc) (ho : (zc ≠ zz) ∧ (-2147483648 ≤ zk + 1 ∧ zk + 1 ≤ 2147483647)) (kon : ∀ h1, me_W [] h h1 → me_E (d + 6) 26 20 [some (.inr (.inr 52)), some (.inr (.inr 2)), some (.inl (zf)), some (.inl (zt)), some (.inl ((0 : Int))), some (.inl (zk + 1))] [] h1 Q) : me_E (d + 6) 26 48 [some (.inr (.inr 52)), some (.inr (.inr 2)), some (.inl (zf)), some (.inl (zt)), some (.inl (zm)), some (.inl (zk))] [.inl (zz), .inl (zc)] h Q := mf_seg (mp_h2F_0 h d zf zt zm zk zz zc) (mi_tab_h2F_0) hS (mi_okL_c (trivial) (mi_okL_c (trivial) (mi_okL_c (ok_zf) (mi_okL_c (ok_zt) (mi_okL_c (ok_zm) (mi_okL_c (ok_zk) (mi_okL_e))))))) (mi_okS_cons (ok_zz) (mi_okS_cons (ok_zc) (mi_okS_e))) (mi_al (ho.1) (mi_al (ho.2) (mi_al_e))) (fun h1 W _ hst => kon h1 W)
set_option maxRecDepth 20000 in
theorem mp_h2F_1 (h : sm_H) (d : Nat) (zf zt zm zk zz zc : Int) : mj_path [(26, (6, 4, sb_26))] sx_sk h 6 [0] (d + 6, 26, 48, [some (.inr (.inr 52)), some (.inr (.inr 2)), some (.inl (zf)), some (.inl (zt)), some (.inl (zm)), some (.inl (zk))], [.inl (zz), .inl (zc)], [], []) = some ((d + 6, 26, 20, [some (.inr (.inr 52)), some (.inr (.inr 2)), some (.inl (zf)), some (.inl (zt)), some (.inl ((1 : Int))), some (.inl (zk + 1))], [], [], []), [zc = zz, -2147483648 ≤ zk + 1 ∧ zk + 1 ≤ 2147483647]) := rfl
theorem mi_tab_h2F_1 : ∀ e ∈ ([(26, (6, 4, sb_26))] : mi_T), sc_P e.1 = some e.2 := mi_tb mi_P26 (mi_tb_e)
set_option maxRecDepth 20000 in
theorem ms_h2F_1 {h : sm_H} {d : Nat} {Q : Option mi_V → sm_H → Prop} {zf zt zm zk zz zc : Int} (hS : ab_Sh sx_sk h) (ok_zf : mi_in zf) (ok_zt : mi_in zt) (ok_zm : mi_in zm) (ok_zk : mi_in zk) (ok_zz : mi_in zz) (ok_zc : mi_in zc) (ho : (zc = zz) ∧ (-2147483648 ≤ zk + 1 ∧ zk + 1 ≤ 2147483647)) (kon : ∀ h1, me_W [] h h1 → me_E (d + 6) 26 20 [some (.inr (.inr 52)), some (.inr (.inr 2)), some (.inl (zf)), some (.inl (zt)), some (.inl ((1 : Int))), some (.inl (zk + 1))] [] h1 Q) : me_E (d + 6) 26 48 [some (.inr (.inr 52)), some (.inr (.inr 2)), some (.inl (zf)), some (.inl (zt)), some (.inl (zm)), some (.inl (zk))] [.inl (zz), .inl (zc)] h Q := mf_seg (mp_h2F_1 h d zf zt zm zk zz zc) (mi_tab_h2F_1) hS (mi_okL_c (trivial) (mi_okL_c (trivial) (mi_okL_c (ok_zf) (mi_okL_c (ok_zt) (mi_okL_c (ok_zm) (mi_okL_c (ok_zk) (mi_okL_e))))))) (mi_okS_cons (ok_zz) (mi_okS_cons (ok_zc) (mi_okS_e))) (mi_al (ho.1) (mi_al (ho.2) (mi_al_e))) (fun h1 W _ hst => kon h1 W)
set_option maxRecDepth 20000 in
theorem mt_h2F {h : sm_H} {d : Nat} {Q : Option mi_V → sm_H → Prop} {zf zt zm zk zz zc : Int} (hS : ab_Sh sx_sk h) (ok_zf : mi_in zf) (ok_zt : mi_in zt) (ok_zm : mi_in zm) (ok_zk : mi_in zk) (ok_zz : mi_in zz) (ok_zc : mi_in zc) (k0 : (zc ≠ zz) → ((-2147483648 ≤ zk + 1 ∧ zk + 1 ≤ 2147483647)) ∧ (∀ h1, ab_Sh sx_sk h1 → ab_Fr [] h h1 → me_E (d + 6) 26 20 [some (.inr (.inr 52)), some (.inr (.inr 2)), some (.inl (zf)), some (.inl (zt)), some (.inl ((0 : Int))), some (.inl (zk + 1))] [] h1 Q)) (k1 : (zc = zz) → ((-2147483648 ≤ zk + 1 ∧ zk + 1 ≤ 2147483647)) ∧ (∀ h1, ab_Sh sx_sk h1 → ab_Fr [] h h1 → me_E (d + 6) 26 20 [some (.inr (.inr 52)), some (.inr (.inr 2)), some (.inl (zf)), some (.inl (zt)), some (.inl ((1 : Int))), some (.inl (zk + 1))] [] h1 Q)) : me_E (d + 6) 26 48 [some (.inr (.inr 52)), some (.inr (.inr 2)), some (.inl (zf)), some (.inl (zt)), some (.inl (zm)), some (.inl (zk))] [.inl (zz), .inl (zc)] h Q := Or.elim (mi_em .ne (zc) (zz)) (fun c0 => ms_h2F_0 hS ok_zf ok_zt ok_zm ok_zk ok_zz ok_zc ⟨c0, (k0 c0).1⟩ (fun h1 W => (k0 c0).2 h1 W.1 (W.2.2.2.2.2 _ rfl))) (fun c0 => ms_h2F_1 hS ok_zf ok_zt ok_zm ok_zk ok_zz ok_zc ⟨c0, (k1 c0).1⟩ (fun h1 W => (k1 c0).2 h1 W.1 (W.2.2.2.2.2 _ rfl)))
set_option maxRecDepth 20000 in
theorem mp_h3A_0 (h : sm_H) (d : Nat) (zf zt : Int) : mj_path [(26, (6, 4, sb_26))] sx_sk h 4 [8] (d + 6, 26, 0, [some (.inr (.inr 52)), some (.inr (.inr 3)), some (.inl (zf)), some (.inl (zt)), none, none], [], [], []) = some ((d + 6, 26, 4, [some (.inr (.inr 52)), some (.inr (.inr 3)), some (.inl (zf)), some (.inl (zt)), none, none], [.inr (.inr 3), .inl (zt - zf)], [], []), [-2147483648 ≤ zt - zf ∧ zt - zf ≤ 2147483647]) := rfl
theorem mi_tab_h3A_0 : ∀ e ∈ ([(26, (6, 4, sb_26))] : mi_T), sc_P e.1 = some e.2 := mi_tb mi_P26 (mi_tb_e)
set_option maxRecDepth 20000 in
theorem ms_h3A_0 {h : sm_H} {d : Nat} {Q : Option mi_V → sm_H → Prop} {zf zt : Int} (hS : ab_Sh sx_sk h) (ok_zf : mi_in zf) (ok_zt : mi_in zt) (ho : (-2147483648 ≤ zt - zf ∧ zt - zf ≤ 2147483647)) (kon : ∀ h1, me_W [] h h1 → ∃ Q1, me_E (d + 5) 27 0 (mi_entry 1 [.inr (.inr 3)]) [] h1 Q1 ∧ ∀ w h2, (∀ x, w = some x → mi_ok x) → Q1 w h2 → me_E (d + 6) 26 7 [some (.inr (.inr 52)), some (.inr (.inr 3)), some (.inl (zf)), some (.inl (zt)), none, none] (mi_back w [.inl (zt - zf)]) h2 Q) : me_E (d + 6) 26 0 [some (.inr (.inr 52)), some (.inr (.inr 3)), some (.inl (zf)), some (.inl (zt)), none, none] [] h Q := mf_seg (mp_h3A_0 h d zf zt) (mi_tab_h3A_0) hS (mi_okL_c (trivial) (mi_okL_c (trivial) (mi_okL_c (ok_zf) (mi_okL_c (ok_zt) (mi_okL_n (mi_okL_n (mi_okL_e))))))) (mi_okS_e) (mi_al (ho) (mi_al_e)) (fun h1 W _ hst => let ⟨_, k1, k2⟩ := kon h1 W; mf_call (M := (6, 4, sb_26)) (M' := (1, 1, sb_27)) rfl rfl rfl rfl (Nat.le_of_ble_eq_true rfl) (Nat.le_of_ble_eq_true rfl) W.1 k1 k2)
set_option maxRecDepth 20000 in
theorem mt_h3A {h : sm_H} {d : Nat} {Q : Option mi_V → sm_H → Prop} {zf zt : Int} (hS : ab_Sh sx_sk h) (ok_zf : mi_in zf) (ok_zt : mi_in zt) (k0 : ((-2147483648 ≤ zt - zf ∧ zt - zf ≤ 2147483647)) ∧ (∀ h1, ab_Sh sx_sk h1 → ab_Fr [] h h1 → ∃ Q1, me_E (d + 5) 27 0 (mi_entry 1 [.inr (.inr 3)]) [] h1 Q1 ∧ ∀ w h2, (∀ x, w = some x → mi_ok x) → Q1 w h2 → me_E (d + 6) 26 7 [some (.inr (.inr 52)), some (.inr (.inr 3)), some (.inl (zf)), some (.inl (zt)), none, none] (mi_back w [.inl (zt - zf)]) h2 Q)) : me_E (d + 6) 26 0 [some (.inr (.inr 52)), some (.inr (.inr 3)), some (.inl (zf)), some (.inl (zt)), none, none] [] h Q := ms_h3A_0 hS ok_zf ok_zt ((k0).1) (fun h1 W => (k0).2 h1 W.1 (W.2.2.2.2.2 _ rfl))
set_option maxRecDepth 20000 in
theorem mp_h3B_0 (h : sm_H) (d : Nat) (zf zt zl zs : Int) : mj_path [(26, (6, 4, sb_26))] sx_sk h 5 [1] (d + 6, 26, 7, [some (.inr (.inr 52)), some (.inr (.inr 3)), some (.inl (zf)), some (.inl (zt)), none, none], [.inl (zl), .inl (zs)], [], []) = some ((d + 6, 26, 20, [some (.inr (.inr 52)), some (.inr (.inr 3)), some (.inl (zf)), some (.inl (zt)), some (.inl ((0 : Int))), some (.inl ((0 : Int)))], [], [], []), [zs ≠ zl]) := rfl
theorem mi_tab_h3B_0 : ∀ e ∈ ([(26, (6, 4, sb_26))] : mi_T), sc_P e.1 = some e.2 := mi_tb mi_P26 (mi_tb_e)
set_option maxRecDepth 20000 in
theorem ms_h3B_0 {h : sm_H} {d : Nat} {Q : Option mi_V → sm_H → Prop} {zf zt zl zs : Int} (hS : ab_Sh sx_sk h) (ok_zf : mi_in zf) (ok_zt : mi_in zt) (ok_zl : mi_in zl) (ok_zs : mi_in zs) (ho : (zs ≠ zl)) (kon : ∀ h1, me_W [] h h1 → me_E (d + 6) 26 20 [some (.inr (.inr 52)), some (.inr (.inr 3)), some (.inl (zf)), some (.inl (zt)), some (.inl ((0 : Int))), some (.inl ((0 : Int)))] [] h1 Q) : me_E (d + 6) 26 7 [some (.inr (.inr 52)), some (.inr (.inr 3)), some (.inl (zf)), some (.inl (zt)), none, none] [.inl (zl), .inl (zs)] h Q := mf_seg (mp_h3B_0 h d zf zt zl zs) (mi_tab_h3B_0) hS (mi_okL_c (trivial) (mi_okL_c (trivial) (mi_okL_c (ok_zf) (mi_okL_c (ok_zt) (mi_okL_n (mi_okL_n (mi_okL_e))))))) (mi_okS_cons (ok_zl) (mi_okS_cons (ok_zs) (mi_okS_e))) (mi_al (ho) (mi_al_e)) (fun h1 W _ hst => kon h1 W)
set_option maxRecDepth 20000 in
theorem mp_h3B_1 (h : sm_H) (d : Nat) (zf zt zl zs : Int) : mj_path [(26, (6, 4, sb_26))] sx_sk h 6 [0] (d + 6, 26, 7, [some (.inr (.inr 52)), some (.inr (.inr 3)), some (.inl (zf)), some (.inl (zt)), none, none], [.inl (zl), .inl (zs)], [], []) = some ((d + 6, 26, 20, [some (.inr (.inr 52)), some (.inr (.inr 3)), some (.inl (zf)), some (.inl (zt)), some (.inl ((1 : Int))), some (.inl ((0 : Int)))], [], [], []), [zs = zl]) := rfl
theorem mi_tab_h3B_1 : ∀ e ∈ ([(26, (6, 4, sb_26))] : mi_T), sc_P e.1 = some e.2 := mi_tb mi_P26 (mi_tb_e)
set_option maxRecDepth 20000 in
theorem ms_h3B_1 {h : sm_H} {d : Nat} {Q : Option mi_V → sm_H → Prop} {zf zt zl zs : Int} (hS : ab_Sh sx_sk h) (ok_zf : mi_in zf) (ok_zt : mi_in zt) (ok_zl : mi_in zl) (ok_zs : mi_in zs) (ho : (zs = zl)) (kon : ∀ h1, me_W [] h h1 → me_E (d + 6) 26 20 [some (.inr (.inr 52)), some (.inr (.inr 3)), some (.inl (zf)), some (.inl (zt)), some (.inl ((1 : Int))), some (.inl ((0 : Int)))] [] h1 Q) : me_E (d + 6) 26 7 [some (.inr (.inr 52)), some (.inr (.inr 3)), some (.inl (zf)), some (.inl (zt)), none, none] [.inl (zl), .inl (zs)] h Q := mf_seg (mp_h3B_1 h d zf zt zl zs) (mi_tab_h3B_1) hS (mi_okL_c (trivial) (mi_okL_c (trivial) (mi_okL_c (ok_zf) (mi_okL_c (ok_zt) (mi_okL_n (mi_okL_n (mi_okL_e))))))) (mi_okS_cons (ok_zl) (mi_okS_cons (ok_zs) (mi_okS_e))) (mi_al (ho) (mi_al_e)) (fun h1 W _ hst => kon h1 W)
set_option maxRecDepth 20000 in
theorem mt_h3B {h : sm_H} {d : Nat} {Q : Option mi_V → sm_H → Prop} {zf zt zl zs : Int} (hS : ab_Sh sx_sk h) (ok_zf : mi_in zf) (ok_zt : mi_in zt) (ok_zl : mi_in zl) (ok_zs : mi_in zs) (k0 : (zs ≠ zl) → (∀ h1, ab_Sh sx_sk h1 → ab_Fr [] h h1 → me_E (d + 6) 26 20 [some (.inr (.inr 52)), some (.inr (.inr 3)), some (.inl (zf)), some (.inl (zt)), some (.inl ((0 : Int))), some (.inl ((0 : Int)))] [] h1 Q)) (k1 : (zs = zl) → (∀ h1, ab_Sh sx_sk h1 → ab_Fr [] h h1 → me_E (d + 6) 26 20 [some (.inr (.inr 52)), some (.inr (.inr 3)), some (.inl (zf)), some (.inl (zt)), some (.inl ((1 : Int))), some (.inl ((0 : Int)))] [] h1 Q)) : me_E (d + 6) 26 7 [some (.inr (.inr 52)), some (.inr (.inr 3)), some (.inl (zf)), some (.inl (zt)), none, none] [.inl (zl), .inl (zs)] h Q := Or.elim (mi_em .ne (zs) (zl)) (fun c0 => ms_h3B_0 hS ok_zf ok_zt ok_zl ok_zs (c0) (fun h1 W => (k0 c0) h1 W.1 (W.2.2.2.2.2 _ rfl))) (fun c0 => ms_h3B_1 hS ok_zf ok_zt ok_zl ok_zs (c0) (fun h1 W => (k1 c0) h1 W.1 (W.2.2.2.2.2 _ rfl)))
set_option maxRecDepth 20000 in
theorem mp_h3C_0 (h : sm_H) (d : Nat) (zf zt zm zk : Int) : mj_path [(26, (6, 4, sb_26))] sx_sk h 3 [1] (d + 6, 26, 20, [some (.inr (.inr 52)), some (.inr (.inr 3)), some (.inl (zf)), some (.inl (zt)), some (.inl (zm)), some (.inl (zk))], [], [], []) = some ((d + 6, 26, 66, [some (.inr (.inr 52)), some (.inr (.inr 3)), some (.inl (zf)), some (.inl (zt)), some (.inl (zm)), some (.inl (zk))], [.inl (zm)], [], []), [zm = ((0 : Int))]) := rfl
theorem mi_tab_h3C_0 : ∀ e ∈ ([(26, (6, 4, sb_26))] : mi_T), sc_P e.1 = some e.2 := mi_tb mi_P26 (mi_tb_e)
set_option maxRecDepth 20000 in
theorem ms_h3C_0 {h : sm_H} {d : Nat} {Q : Option mi_V → sm_H → Prop} {zf zt zm zk : Int} (hS : ab_Sh sx_sk h) (ok_zf : mi_in zf) (ok_zt : mi_in zt) (ok_zm : mi_in zm) (ok_zk : mi_in zk) (ho : (zm = ((0 : Int))) ∧ (zm = 0 ∨ zm = 1)) (kon : ∀ h1, me_W [] h h1 → Q (some (.inl (zm))) h1) : me_E (d + 6) 26 20 [some (.inr (.inr 52)), some (.inr (.inr 3)), some (.inl (zf)), some (.inl (zt)), some (.inl (zm)), some (.inl (zk))] [] h Q := mf_seg (mp_h3C_0 h d zf zt zm zk) (mi_tab_h3C_0) hS (mi_okL_c (trivial) (mi_okL_c (trivial) (mi_okL_c (ok_zf) (mi_okL_c (ok_zt) (mi_okL_c (ok_zm) (mi_okL_c (ok_zk) (mi_okL_e))))))) (mi_okS_e) (mi_al (ho.1) (mi_al_e)) (fun h1 W _ hst => mf_ret (M := (6, 4, sb_26)) rfl rfl rfl hst (mi_al (ho.2) mi_al_e) (kon h1 W))
set_option maxRecDepth 20000 in
theorem mp_h3C_1 (h : sm_H) (d : Nat) (zf zt zm zk : Int) : mj_path [(26, (6, 4, sb_26))] sx_sk h 4 [0] (d + 6, 26, 20, [some (.inr (.inr 52)), some (.inr (.inr 3)), some (.inl (zf)), some (.inl (zt)), some (.inl (zm)), some (.inl (zk))], [], [], []) = some ((d + 6, 26, 28, [some (.inr (.inr 52)), some (.inr (.inr 3)), some (.inl (zf)), some (.inl (zt)), some (.inl (zm)), some (.inl (zk))], [.inr (.inr 3), .inl (zk)], [], []), [zm ≠ ((0 : Int))]) := rfl
theorem mi_tab_h3C_1 : ∀ e ∈ ([(26, (6, 4, sb_26))] : mi_T), sc_P e.1 = some e.2 := mi_tb mi_P26 (mi_tb_e)
set_option maxRecDepth 20000 in
theorem ms_h3C_1 {h : sm_H} {d : Nat} {Q : Option mi_V → sm_H → Prop} {zf zt zm zk : Int} (hS : ab_Sh sx_sk h) (ok_zf : mi_in zf) (ok_zt : mi_in zt) (ok_zm : mi_in zm) (ok_zk : mi_in zk) (ho : (zm ≠ ((0 : Int)))) (kon : ∀ h1, me_W [] h h1 → ∃ Q1, me_E (d + 5) 27 0 (mi_entry 1 [.inr (.inr 3)]) [] h1 Q1 ∧ ∀ w h2, (∀ x, w = some x → mi_ok x) → Q1 w h2 → me_E (d + 6) 26 31 [some (.inr (.inr 52)), some (.inr (.inr 3)), some (.inl (zf)), some (.inl (zt)), some (.inl (zm)), some (.inl (zk))] (mi_back w [.inl (zk)]) h2 Q) : me_E (d + 6) 26 20 [some (.inr (.inr 52)), some (.inr (.inr 3)), some (.inl (zf)), some (.inl (zt)), some (.inl (zm)), some (.inl (zk))] [] h Q := mf_seg (mp_h3C_1 h d zf zt zm zk) (mi_tab_h3C_1) hS (mi_okL_c (trivial) (mi_okL_c (trivial) (mi_okL_c (ok_zf) (mi_okL_c (ok_zt) (mi_okL_c (ok_zm) (mi_okL_c (ok_zk) (mi_okL_e))))))) (mi_okS_e) (mi_al (ho) (mi_al_e)) (fun h1 W _ hst => let ⟨_, k1, k2⟩ := kon h1 W; mf_call (M := (6, 4, sb_26)) (M' := (1, 1, sb_27)) rfl rfl rfl rfl (Nat.le_of_ble_eq_true rfl) (Nat.le_of_ble_eq_true rfl) W.1 k1 k2)
set_option maxRecDepth 20000 in
theorem mt_h3C {h : sm_H} {d : Nat} {Q : Option mi_V → sm_H → Prop} {zf zt zm zk : Int} (hS : ab_Sh sx_sk h) (ok_zf : mi_in zf) (ok_zt : mi_in zt) (ok_zm : mi_in zm) (ok_zk : mi_in zk) (k0 : (zm = ((0 : Int))) → ((zm = 0 ∨ zm = 1)) ∧ (∀ h1, ab_Sh sx_sk h1 → ab_Fr [] h h1 → Q (some (.inl (zm))) h1)) (k1 : (zm ≠ ((0 : Int))) → (∀ h1, ab_Sh sx_sk h1 → ab_Fr [] h h1 → ∃ Q1, me_E (d + 5) 27 0 (mi_entry 1 [.inr (.inr 3)]) [] h1 Q1 ∧ ∀ w h2, (∀ x, w = some x → mi_ok x) → Q1 w h2 → me_E (d + 6) 26 31 [some (.inr (.inr 52)), some (.inr (.inr 3)), some (.inl (zf)), some (.inl (zt)), some (.inl (zm)), some (.inl (zk))] (mi_back w [.inl (zk)]) h2 Q)) : me_E (d + 6) 26 20 [some (.inr (.inr 52)), some (.inr (.inr 3)), some (.inl (zf)), some (.inl (zt)), some (.inl (zm)), some (.inl (zk))] [] h Q := Or.elim (mi_em .eq (zm) (((0 : Int)))) (fun c0 => ms_h3C_0 hS ok_zf ok_zt ok_zm ok_zk ⟨c0, (k0 c0).1⟩ (fun h1 W => (k0 c0).2 h1 W.1 (W.2.2.2.2.2 _ rfl))) (fun c0 => ms_h3C_1 hS ok_zf ok_zt ok_zm ok_zk (c0) (fun h1 W => (k1 c0) h1 W.1 (W.2.2.2.2.2 _ rfl)))
set_option maxRecDepth 20000 in
theorem mp_h3D_0 (h : sm_H) (d : Nat) (zf zt zm zk zl zy : Int) : mj_path [(26, (6, 4, sb_26))] sx_sk h 2 [1] (d + 6, 26, 31, [some (.inr (.inr 52)), some (.inr (.inr 3)), some (.inl (zf)), some (.inl (zt)), some (.inl (zm)), some (.inl (zk))], [.inl (zl), .inl (zy)], [], []) = some ((d + 6, 26, 66, [some (.inr (.inr 52)), some (.inr (.inr 3)), some (.inl (zf)), some (.inl (zt)), some (.inl (zm)), some (.inl (zk))], [.inl (zm)], [], []), [zl ≤ zy]) := rfl
theorem mi_tab_h3D_0 : ∀ e ∈ ([(26, (6, 4, sb_26))] : mi_T), sc_P e.1 = some e.2 := mi_tb mi_P26 (mi_tb_e)
set_option maxRecDepth 20000 in
theorem ms_h3D_0 {h : sm_H} {d : Nat} {Q : Option mi_V → sm_H → Prop} {zf zt zm zk zl zy : Int} (hS : ab_Sh sx_sk h) (ok_zf : mi_in zf) (ok_zt : mi_in zt) (ok_zm : mi_in zm) (ok_zk : mi_in zk) (ok_zl : mi_in zl) (ok_zy : mi_in zy) (ho : (zl ≤ zy) ∧ (zm = 0 ∨ zm = 1)) (kon : ∀ h1, me_W [] h h1 → Q (some (.inl (zm))) h1) : me_E (d + 6) 26 31 [some (.inr (.inr 52)), some (.inr (.inr 3)), some (.inl (zf)), some (.inl (zt)), some (.inl (zm)), some (.inl (zk))] [.inl (zl), .inl (zy)] h Q := mf_seg (mp_h3D_0 h d zf zt zm zk zl zy) (mi_tab_h3D_0) hS (mi_okL_c (trivial) (mi_okL_c (trivial) (mi_okL_c (ok_zf) (mi_okL_c (ok_zt) (mi_okL_c (ok_zm) (mi_okL_c (ok_zk) (mi_okL_e))))))) (mi_okS_cons (ok_zl) (mi_okS_cons (ok_zy) (mi_okS_e))) (mi_al (ho.1) (mi_al_e)) (fun h1 W _ hst => mf_ret (M := (6, 4, sb_26)) rfl rfl rfl hst (mi_al (ho.2) mi_al_e) (kon h1 W))
set_option maxRecDepth 20000 in
theorem mp_h3D_1 (h : sm_H) (d : Nat) (zf zt zm zk zl zy : Int) : mj_path [(26, (6, 4, sb_26))] sx_sk h 3 [0] (d + 6, 26, 31, [some (.inr (.inr 52)), some (.inr (.inr 3)), some (.inl (zf)), some (.inl (zt)), some (.inl (zm)), some (.inl (zk))], [.inl (zl), .inl (zy)], [], []) = some ((d + 6, 26, 37, [some (.inr (.inr 52)), some (.inr (.inr 3)), some (.inl (zf)), some (.inl (zt)), some (.inl (zm)), some (.inl (zk))], [.inl (zk), .inr (.inr 3)], [], []), [zy < zl]) := rfl
theorem mi_tab_h3D_1 : ∀ e ∈ ([(26, (6, 4, sb_26))] : mi_T), sc_P e.1 = some e.2 := mi_tb mi_P26 (mi_tb_e)
set_option maxRecDepth 20000 in
theorem ms_h3D_1 {h : sm_H} {d : Nat} {Q : Option mi_V → sm_H → Prop} {zf zt zm zk zl zy : Int} (hS : ab_Sh sx_sk h) (ok_zf : mi_in zf) (ok_zt : mi_in zt) (ok_zm : mi_in zm) (ok_zk : mi_in zk) (ok_zl : mi_in zl) (ok_zy : mi_in zy) (ho : (zy < zl)) (kon : ∀ h1, me_W [] h h1 → ∃ Q1, me_E (d + 5) 29 0 (mi_entry 2 [.inr (.inr 3), .inl (zk)]) [] h1 Q1 ∧ ∀ w h2, (∀ x, w = some x → mi_ok x) → Q1 w h2 → me_E (d + 6) 26 40 [some (.inr (.inr 52)), some (.inr (.inr 3)), some (.inl (zf)), some (.inl (zt)), some (.inl (zm)), some (.inl (zk))] (mi_back w []) h2 Q) : me_E (d + 6) 26 31 [some (.inr (.inr 52)), some (.inr (.inr 3)), some (.inl (zf)), some (.inl (zt)), some (.inl (zm)), some (.inl (zk))] [.inl (zl), .inl (zy)] h Q := mf_seg (mp_h3D_1 h d zf zt zm zk zl zy) (mi_tab_h3D_1) hS (mi_okL_c (trivial) (mi_okL_c (trivial) (mi_okL_c (ok_zf) (mi_okL_c (ok_zt) (mi_okL_c (ok_zm) (mi_okL_c (ok_zk) (mi_okL_e))))))) (mi_okS_cons (ok_zl) (mi_okS_cons (ok_zy) (mi_okS_e))) (mi_al (ho) (mi_al_e)) (fun h1 W _ hst => let ⟨_, k1, k2⟩ := kon h1 W; mf_call (M := (6, 4, sb_26)) (M' := (2, 5, sb_29)) rfl rfl rfl rfl (Nat.le_of_ble_eq_true rfl) (Nat.le_of_ble_eq_true rfl) W.1 k1 k2)
set_option maxRecDepth 20000 in
theorem mt_h3D {h : sm_H} {d : Nat} {Q : Option mi_V → sm_H → Prop} {zf zt zm zk zl zy : Int} (hS : ab_Sh sx_sk h) (ok_zf : mi_in zf) (ok_zt : mi_in zt) (ok_zm : mi_in zm) (ok_zk : mi_in zk) (ok_zl : mi_in zl) (ok_zy : mi_in zy) (k0 : (zl ≤ zy) → ((zm = 0 ∨ zm = 1)) ∧ (∀ h1, ab_Sh sx_sk h1 → ab_Fr [] h h1 → Q (some (.inl (zm))) h1)) (k1 : (zy < zl) → (∀ h1, ab_Sh sx_sk h1 → ab_Fr [] h h1 → ∃ Q1, me_E (d + 5) 29 0 (mi_entry 2 [.inr (.inr 3), .inl (zk)]) [] h1 Q1 ∧ ∀ w h2, (∀ x, w = some x → mi_ok x) → Q1 w h2 → me_E (d + 6) 26 40 [some (.inr (.inr 52)), some (.inr (.inr 3)), some (.inl (zf)), some (.inl (zt)), some (.inl (zm)), some (.inl (zk))] (mi_back w []) h2 Q)) : me_E (d + 6) 26 31 [some (.inr (.inr 52)), some (.inr (.inr 3)), some (.inl (zf)), some (.inl (zt)), some (.inl (zm)), some (.inl (zk))] [.inl (zl), .inl (zy)] h Q := Or.elim (mi_em .ge (zy) (zl)) (fun c0 => ms_h3D_0 hS ok_zf ok_zt ok_zm ok_zk ok_zl ok_zy ⟨c0, (k0 c0).1⟩ (fun h1 W => (k0 c0).2 h1 W.1 (W.2.2.2.2.2 _ rfl))) (fun c0 => ms_h3D_1 hS ok_zf ok_zt ok_zm ok_zk ok_zl ok_zy (c0) (fun h1 W => (k1 c0) h1 W.1 (W.2.2.2.2.2 _ rfl)))
set_option maxRecDepth 20000 in
theorem mp_h3E_0 (h : sm_H) (d : Nat) (zf zt zm zk zc : Int) : mj_path [(26, (6, 4, sb_26))] sx_sk h 4 [8] (d + 6, 26, 40, [some (.inr (.inr 52)), some (.inr (.inr 3)), some (.inl (zf)), some (.inl (zt)), some (.inl (zm)), some (.inl (zk))], [.inl (zc)], [], []) = some ((d + 6, 26, 45, [some (.inr (.inr 52)), some (.inr (.inr 3)), some (.inl (zf)), some (.inl (zt)), some (.inl (zm)), some (.inl (zk))], [.inl (zf + zk), .inr (.inr 52), .inl (zc)], [], []), [-2147483648 ≤ zf + zk ∧ zf + zk ≤ 2147483647]) := rfl
theorem mi_tab_h3E_0 : ∀ e ∈ ([(26, (6, 4, sb_26))] : mi_T), sc_P e.1 = some e.2 := mi_tb mi_P26 (mi_tb_e)
set_option maxRecDepth 20000 in
theorem ms_h3E_0 {h : sm_H} {d : Nat} {Q : Option mi_V → sm_H → Prop} {zf zt zm zk zc : Int} (hS : ab_Sh sx_sk h) (ok_zf : mi_in zf) (ok_zt : mi_in zt) (ok_zm : mi_in zm) (ok_zk : mi_in zk) (ok_zc : mi_in zc) (ho : (-2147483648 ≤ zf + zk ∧ zf + zk ≤ 2147483647)) (kon : ∀ h1, me_W [] h h1 → ∃ Q1, me_E (d + 5) 20 0 (mi_entry 2 [.inr (.inr 52), .inl (zf + zk)]) [] h1 Q1 ∧ ∀ w h2, (∀ x, w = some x → mi_ok x) → Q1 w h2 → me_E (d + 6) 26 48 [some (.inr (.inr 52)), some (.inr (.inr 3)), some (.inl (zf)), some (.inl (zt)), some (.inl (zm)), some (.inl (zk))] (mi_back w [.inl (zc)]) h2 Q) : me_E (d + 6) 26 40 [some (.inr (.inr 52)), some (.inr (.inr 3)), some (.inl (zf)), some (.inl (zt)), some (.inl (zm)), some (.inl (zk))] [.inl (zc)] h Q := mf_seg (mp_h3E_0 h d zf zt zm zk zc) (mi_tab_h3E_0) hS (mi_okL_c (trivial) (mi_okL_c (trivial) (mi_okL_c (ok_zf) (mi_okL_c (ok_zt) (mi_okL_c (ok_zm) (mi_okL_c (ok_zk) (mi_okL_e))))))) (mi_okS_cons (ok_zc) (mi_okS_e)) (mi_al (ho) (mi_al_e)) (fun h1 W _ hst => let ⟨_, k1, k2⟩ := kon h1 W; mf_call (M := (6, 4, sb_26)) (M' := (2, 5, sb_20)) rfl rfl rfl rfl (Nat.le_of_ble_eq_true rfl) (Nat.le_of_ble_eq_true rfl) W.1 k1 k2)
set_option maxRecDepth 20000 in
theorem mt_h3E {h : sm_H} {d : Nat} {Q : Option mi_V → sm_H → Prop} {zf zt zm zk zc : Int} (hS : ab_Sh sx_sk h) (ok_zf : mi_in zf) (ok_zt : mi_in zt) (ok_zm : mi_in zm) (ok_zk : mi_in zk) (ok_zc : mi_in zc) (k0 : ((-2147483648 ≤ zf + zk ∧ zf + zk ≤ 2147483647)) ∧ (∀ h1, ab_Sh sx_sk h1 → ab_Fr [] h h1 → ∃ Q1, me_E (d + 5) 20 0 (mi_entry 2 [.inr (.inr 52), .inl (zf + zk)]) [] h1 Q1 ∧ ∀ w h2, (∀ x, w = some x → mi_ok x) → Q1 w h2 → me_E (d + 6) 26 48 [some (.inr (.inr 52)), some (.inr (.inr 3)), some (.inl (zf)), some (.inl (zt)), some (.inl (zm)), some (.inl (zk))] (mi_back w [.inl (zc)]) h2 Q)) : me_E (d + 6) 26 40 [some (.inr (.inr 52)), some (.inr (.inr 3)), some (.inl (zf)), some (.inl (zt)), some (.inl (zm)), some (.inl (zk))] [.inl (zc)] h Q := ms_h3E_0 hS ok_zf ok_zt ok_zm ok_zk ok_zc ((k0).1) (fun h1 W => (k0).2 h1 W.1 (W.2.2.2.2.2 _ rfl))
set_option maxRecDepth 20000 in
theorem mp_h3F_0 (h : sm_H) (d : Nat) (zf zt zm zk zz zc : Int) : mj_path [(26, (6, 4, sb_26))] sx_sk h 5 [1] (d + 6, 26, 48, [some (.inr (.inr 52)), some (.inr (.inr 3)), some (.inl (zf)), some (.inl (zt)), some (.inl (zm)), some (.inl (zk))], [.inl (zz), .inl (zc)], [], []) = some ((d + 6, 26, 20, [some (.inr (.inr 52)), some (.inr (.inr 3)), some (.inl (zf)), some (.inl (zt)), some (.inl ((0 : Int))), some (.inl (zk + 1))], [], [], []), [zc ≠ zz, -2147483648 ≤ zk + 1 ∧ zk + 1 ≤ 2147483647]) := rfl
theorem mi_tab_h3F_0 : ∀ e ∈ ([(26, (6, 4, sb_26))] : mi_T), sc_P e.1 = some e.2 := mi_tb mi_P26 (mi_tb_e)
set_option maxRecDepth 20000 in
theorem ms_h3F_0 {h : sm_H} {d : Nat} {Q : Option mi_V → sm_H → Prop} {zf zt zm zk zz zc : Int} (hS : ab_Sh sx_sk h) (ok_zf : mi_in zf) (ok_zt : mi_in zt) (ok_zm : mi_in zm) (ok_zk : mi_in zk) (ok_zz : mi_in zz) (ok_zc : mi_in zc) (ho : (zc ≠ zz) ∧ (-2147483648 ≤ zk + 1 ∧ zk + 1 ≤ 2147483647)) (kon : ∀ h1, me_W [] h h1 → me_E (d + 6) 26 20 [some (.inr (.inr 52)), some (.inr (.inr 3)), some (.inl (zf)), some (.inl (zt)), some (.inl ((0 : Int))), some (.inl (zk + 1))] [] h1 Q) : me_E (d + 6) 26 48 [some (.inr (.inr 52)), some (.inr (.inr 3)), some (.inl (zf)), some (.inl (zt)), some (.inl (zm)), some (.inl (zk))] [.inl (zz), .inl (zc)] h Q := mf_seg (mp_h3F_0 h d zf zt zm zk zz zc) (mi_tab_h3F_0) hS (mi_okL_c (trivial) (mi_okL_c (trivial) (mi_okL_c (ok_zf) (mi_okL_c (ok_zt) (mi_okL_c (ok_zm) (mi_okL_c (ok_zk) (mi_okL_e))))))) (mi_okS_cons (ok_zz) (mi_okS_cons (ok_zc) (mi_okS_e))) (mi_al (ho.1) (mi_al (ho.2) (mi_al_e))) (fun h1 W _ hst => kon h1 W)
set_option maxRecDepth 20000 in
theorem mp_h3F_1 (h : sm_H) (d : Nat) (zf zt zm zk zz zc : Int) : mj_path [(26, (6, 4, sb_26))] sx_sk h 6 [0] (d + 6, 26, 48, [some (.inr (.inr 52)), some (.inr (.inr 3)), some (.inl (zf)), some (.inl (zt)), some (.inl (zm)), some (.inl (zk))], [.inl (zz), .inl (zc)], [], []) = some ((d + 6, 26, 20, [some (.inr (.inr 52)), some (.inr (.inr 3)), some (.inl (zf)), some (.inl (zt)), some (.inl ((1 : Int))), some (.inl (zk + 1))], [], [], []), [zc = zz, -2147483648 ≤ zk + 1 ∧ zk + 1 ≤ 2147483647]) := rfl
theorem mi_tab_h3F_1 : ∀ e ∈ ([(26, (6, 4, sb_26))] : mi_T), sc_P e.1 = some e.2 := mi_tb mi_P26 (mi_tb_e)
set_option maxRecDepth 20000 in
theorem ms_h3F_1 {h : sm_H} {d : Nat} {Q : Option mi_V → sm_H → Prop} {zf zt zm zk zz zc : Int} (hS : ab_Sh sx_sk h) (ok_zf : mi_in zf) (ok_zt : mi_in zt) (ok_zm : mi_in zm) (ok_zk : mi_in zk) (ok_zz : mi_in zz) (ok_zc : mi_in zc) (ho : (zc = zz) ∧ (-2147483648 ≤ zk + 1 ∧ zk + 1 ≤ 2147483647)) (kon : ∀ h1, me_W [] h h1 → me_E (d + 6) 26 20 [some (.inr (.inr 52)), some (.inr (.inr 3)), some (.inl (zf)), some (.inl (zt)), some (.inl ((1 : Int))), some (.inl (zk + 1))] [] h1 Q) : me_E (d + 6) 26 48 [some (.inr (.inr 52)), some (.inr (.inr 3)), some (.inl (zf)), some (.inl (zt)), some (.inl (zm)), some (.inl (zk))] [.inl (zz), .inl (zc)] h Q := mf_seg (mp_h3F_1 h d zf zt zm zk zz zc) (mi_tab_h3F_1) hS (mi_okL_c (trivial) (mi_okL_c (trivial) (mi_okL_c (ok_zf) (mi_okL_c (ok_zt) (mi_okL_c (ok_zm) (mi_okL_c (ok_zk) (mi_okL_e))))))) (mi_okS_cons (ok_zz) (mi_okS_cons (ok_zc) (mi_okS_e))) (mi_al (ho.1) (mi_al (ho.2) (mi_al_e))) (fun h1 W _ hst => kon h1 W)
set_option maxRecDepth 20000 in
theorem mt_h3F {h : sm_H} {d : Nat} {Q : Option mi_V → sm_H → Prop} {zf zt zm zk zz zc : Int} (hS : ab_Sh sx_sk h) (ok_zf : mi_in zf) (ok_zt : mi_in zt) (ok_zm : mi_in zm) (ok_zk : mi_in zk) (ok_zz : mi_in zz) (ok_zc : mi_in zc) (k0 : (zc ≠ zz) → ((-2147483648 ≤ zk + 1 ∧ zk + 1 ≤ 2147483647)) ∧ (∀ h1, ab_Sh sx_sk h1 → ab_Fr [] h h1 → me_E (d + 6) 26 20 [some (.inr (.inr 52)), some (.inr (.inr 3)), some (.inl (zf)), some (.inl (zt)), some (.inl ((0 : Int))), some (.inl (zk + 1))] [] h1 Q)) (k1 : (zc = zz) → ((-2147483648 ≤ zk + 1 ∧ zk + 1 ≤ 2147483647)) ∧ (∀ h1, ab_Sh sx_sk h1 → ab_Fr [] h h1 → me_E (d + 6) 26 20 [some (.inr (.inr 52)), some (.inr (.inr 3)), some (.inl (zf)), some (.inl (zt)), some (.inl ((1 : Int))), some (.inl (zk + 1))] [] h1 Q)) : me_E (d + 6) 26 48 [some (.inr (.inr 52)), some (.inr (.inr 3)), some (.inl (zf)), some (.inl (zt)), some (.inl (zm)), some (.inl (zk))] [.inl (zz), .inl (zc)] h Q := Or.elim (mi_em .ne (zc) (zz)) (fun c0 => ms_h3F_0 hS ok_zf ok_zt ok_zm ok_zk ok_zz ok_zc ⟨c0, (k0 c0).1⟩ (fun h1 W => (k0 c0).2 h1 W.1 (W.2.2.2.2.2 _ rfl))) (fun c0 => ms_h3F_1 hS ok_zf ok_zt ok_zm ok_zk ok_zz ok_zc ⟨c0, (k1 c0).1⟩ (fun h1 W => (k1 c0).2 h1 W.1 (W.2.2.2.2.2 _ rfl)))
set_option maxRecDepth 20000 in
theorem mp_h4A_0 (h : sm_H) (d : Nat) (zf zt : Int) : mj_path [(26, (6, 4, sb_26))] sx_sk h 4 [8] (d + 6, 26, 0, [some (.inr (.inr 52)), some (.inr (.inr 4)), some (.inl (zf)), some (.inl (zt)), none, none], [], [], []) = some ((d + 6, 26, 4, [some (.inr (.inr 52)), some (.inr (.inr 4)), some (.inl (zf)), some (.inl (zt)), none, none], [.inr (.inr 4), .inl (zt - zf)], [], []), [-2147483648 ≤ zt - zf ∧ zt - zf ≤ 2147483647]) := rfl
theorem mi_tab_h4A_0 : ∀ e ∈ ([(26, (6, 4, sb_26))] : mi_T), sc_P e.1 = some e.2 := mi_tb mi_P26 (mi_tb_e)
set_option maxRecDepth 20000 in
theorem ms_h4A_0 {h : sm_H} {d : Nat} {Q : Option mi_V → sm_H → Prop} {zf zt : Int} (hS : ab_Sh sx_sk h) (ok_zf : mi_in zf) (ok_zt : mi_in zt) (ho : (-2147483648 ≤ zt - zf ∧ zt - zf ≤ 2147483647)) (kon : ∀ h1, me_W [] h h1 → ∃ Q1, me_E (d + 5) 27 0 (mi_entry 1 [.inr (.inr 4)]) [] h1 Q1 ∧ ∀ w h2, (∀ x, w = some x → mi_ok x) → Q1 w h2 → me_E (d + 6) 26 7 [some (.inr (.inr 52)), some (.inr (.inr 4)), some (.inl (zf)), some (.inl (zt)), none, none] (mi_back w [.inl (zt - zf)]) h2 Q) : me_E (d + 6) 26 0 [some (.inr (.inr 52)), some (.inr (.inr 4)), some (.inl (zf)), some (.inl (zt)), none, none] [] h Q := mf_seg (mp_h4A_0 h d zf zt) (mi_tab_h4A_0) hS (mi_okL_c (trivial) (mi_okL_c (trivial) (mi_okL_c (ok_zf) (mi_okL_c (ok_zt) (mi_okL_n (mi_okL_n (mi_okL_e))))))) (mi_okS_e) (mi_al (ho) (mi_al_e)) (fun h1 W _ hst => let ⟨_, k1, k2⟩ := kon h1 W; mf_call (M := (6, 4, sb_26)) (M' := (1, 1, sb_27)) rfl rfl rfl rfl (Nat.le_of_ble_eq_true rfl) (Nat.le_of_ble_eq_true rfl) W.1 k1 k2)
set_option maxRecDepth 20000 in
theorem mt_h4A {h : sm_H} {d : Nat} {Q : Option mi_V → sm_H → Prop} {zf zt : Int} (hS : ab_Sh sx_sk h) (ok_zf : mi_in zf) (ok_zt : mi_in zt) (k0 : ((-2147483648 ≤ zt - zf ∧ zt - zf ≤ 2147483647)) ∧ (∀ h1, ab_Sh sx_sk h1 → ab_Fr [] h h1 → ∃ Q1, me_E (d + 5) 27 0 (mi_entry 1 [.inr (.inr 4)]) [] h1 Q1 ∧ ∀ w h2, (∀ x, w = some x → mi_ok x) → Q1 w h2 → me_E (d + 6) 26 7 [some (.inr (.inr 52)), some (.inr (.inr 4)), some (.inl (zf)), some (.inl (zt)), none, none] (mi_back w [.inl (zt - zf)]) h2 Q)) : me_E (d + 6) 26 0 [some (.inr (.inr 52)), some (.inr (.inr 4)), some (.inl (zf)), some (.inl (zt)), none, none] [] h Q := ms_h4A_0 hS ok_zf ok_zt ((k0).1) (fun h1 W => (k0).2 h1 W.1 (W.2.2.2.2.2 _ rfl))
set_option maxRecDepth 20000 in
theorem mp_h4B_0 (h : sm_H) (d : Nat) (zf zt zl zs : Int) : mj_path [(26, (6, 4, sb_26))] sx_sk h 5 [1] (d + 6, 26, 7, [some (.inr (.inr 52)), some (.inr (.inr 4)), some (.inl (zf)), some (.inl (zt)), none, none], [.inl (zl), .inl (zs)], [], []) = some ((d + 6, 26, 20, [some (.inr (.inr 52)), some (.inr (.inr 4)), some (.inl (zf)), some (.inl (zt)), some (.inl ((0 : Int))), some (.inl ((0 : Int)))], [], [], []), [zs ≠ zl]) := rfl
theorem mi_tab_h4B_0 : ∀ e ∈ ([(26, (6, 4, sb_26))] : mi_T), sc_P e.1 = some e.2 := mi_tb mi_P26 (mi_tb_e)
set_option maxRecDepth 20000 in
theorem ms_h4B_0 {h : sm_H} {d : Nat} {Q : Option mi_V → sm_H → Prop} {zf zt zl zs : Int} (hS : ab_Sh sx_sk h) (ok_zf : mi_in zf) (ok_zt : mi_in zt) (ok_zl : mi_in zl) (ok_zs : mi_in zs) (ho : (zs ≠ zl)) (kon : ∀ h1, me_W [] h h1 → me_E (d + 6) 26 20 [some (.inr (.inr 52)), some (.inr (.inr 4)), some (.inl (zf)), some (.inl (zt)), some (.inl ((0 : Int))), some (.inl ((0 : Int)))] [] h1 Q) : me_E (d + 6) 26 7 [some (.inr (.inr 52)), some (.inr (.inr 4)), some (.inl (zf)), some (.inl (zt)), none, none] [.inl (zl), .inl (zs)] h Q := mf_seg (mp_h4B_0 h d zf zt zl zs) (mi_tab_h4B_0) hS (mi_okL_c (trivial) (mi_okL_c (trivial) (mi_okL_c (ok_zf) (mi_okL_c (ok_zt) (mi_okL_n (mi_okL_n (mi_okL_e))))))) (mi_okS_cons (ok_zl) (mi_okS_cons (ok_zs) (mi_okS_e))) (mi_al (ho) (mi_al_e)) (fun h1 W _ hst => kon h1 W)
set_option maxRecDepth 20000 in
theorem mp_h4B_1 (h : sm_H) (d : Nat) (zf zt zl zs : Int) : mj_path [(26, (6, 4, sb_26))] sx_sk h 6 [0] (d + 6, 26, 7, [some (.inr (.inr 52)), some (.inr (.inr 4)), some (.inl (zf)), some (.inl (zt)), none, none], [.inl (zl), .inl (zs)], [], []) = some ((d + 6, 26, 20, [some (.inr (.inr 52)), some (.inr (.inr 4)), some (.inl (zf)), some (.inl (zt)), some (.inl ((1 : Int))), some (.inl ((0 : Int)))], [], [], []), [zs = zl]) := rfl
theorem mi_tab_h4B_1 : ∀ e ∈ ([(26, (6, 4, sb_26))] : mi_T), sc_P e.1 = some e.2 := mi_tb mi_P26 (mi_tb_e)
set_option maxRecDepth 20000 in
theorem ms_h4B_1 {h : sm_H} {d : Nat} {Q : Option mi_V → sm_H → Prop} {zf zt zl zs : Int} (hS : ab_Sh sx_sk h) (ok_zf : mi_in zf) (ok_zt : mi_in zt) (ok_zl : mi_in zl) (ok_zs : mi_in zs) (ho : (zs = zl)) (kon : ∀ h1, me_W [] h h1 → me_E (d + 6) 26 20 [some (.inr (.inr 52)), some (.inr (.inr 4)), some (.inl (zf)), some (.inl (zt)), some (.inl ((1 : Int))), some (.inl ((0 : Int)))] [] h1 Q) : me_E (d + 6) 26 7 [some (.inr (.inr 52)), some (.inr (.inr 4)), some (.inl (zf)), some (.inl (zt)), none, none] [.inl (zl), .inl (zs)] h Q := mf_seg (mp_h4B_1 h d zf zt zl zs) (mi_tab_h4B_1) hS (mi_okL_c (trivial) (mi_okL_c (trivial) (mi_okL_c (ok_zf) (mi_okL_c (ok_zt) (mi_okL_n (mi_okL_n (mi_okL_e))))))) (mi_okS_cons (ok_zl) (mi_okS_cons (ok_zs) (mi_okS_e))) (mi_al (ho) (mi_al_e)) (fun h1 W _ hst => kon h1 W)
set_option maxRecDepth 20000 in
theorem mt_h4B {h : sm_H} {d : Nat} {Q : Option mi_V → sm_H → Prop} {zf zt zl zs : Int} (hS : ab_Sh sx_sk h) (ok_zf : mi_in zf) (ok_zt : mi_in zt) (ok_zl : mi_in zl) (ok_zs : mi_in zs) (k0 : (zs ≠ zl) → (∀ h1, ab_Sh sx_sk h1 → ab_Fr [] h h1 → me_E (d + 6) 26 20 [some (.inr (.inr 52)), some (.inr (.inr 4)), some (.inl (zf)), some (.inl (zt)), some (.inl ((0 : Int))), some (.inl ((0 : Int)))] [] h1 Q)) (k1 : (zs = zl) → (∀ h1, ab_Sh sx_sk h1 → ab_Fr [] h h1 → me_E (d + 6) 26 20 [some (.inr (.inr 52)), some (.inr (.inr 4)), some (.inl (zf)), some (.inl (zt)), some (.inl ((1 : Int))), some (.inl ((0 : Int)))] [] h1 Q)) : me_E (d + 6) 26 7 [some (.inr (.inr 52)), some (.inr (.inr 4)), some (.inl (zf)), some (.inl (zt)), none, none] [.inl (zl), .inl (zs)] h Q := Or.elim (mi_em .ne (zs) (zl)) (fun c0 => ms_h4B_0 hS ok_zf ok_zt ok_zl ok_zs (c0) (fun h1 W => (k0 c0) h1 W.1 (W.2.2.2.2.2 _ rfl))) (fun c0 => ms_h4B_1 hS ok_zf ok_zt ok_zl ok_zs (c0) (fun h1 W => (k1 c0) h1 W.1 (W.2.2.2.2.2 _ rfl)))
set_option maxRecDepth 20000 in
theorem mp_h4C_0 (h : sm_H) (d : Nat) (zf zt zm zk : Int) : mj_path [(26, (6, 4, sb_26))] sx_sk h 3 [1] (d + 6, 26, 20, [some (.inr (.inr 52)), some (.inr (.inr 4)), some (.inl (zf)), some (.inl (zt)), some (.inl (zm)), some (.inl (zk))], [], [], []) = some ((d + 6, 26, 66, [some (.inr (.inr 52)), some (.inr (.inr 4)), some (.inl (zf)), some (.inl (zt)), some (.inl (zm)), some (.inl (zk))], [.inl (zm)], [], []), [zm = ((0 : Int))]) := rfl
theorem mi_tab_h4C_0 : ∀ e ∈ ([(26, (6, 4, sb_26))] : mi_T), sc_P e.1 = some e.2 := mi_tb mi_P26 (mi_tb_e)
set_option maxRecDepth 20000 in
theorem ms_h4C_0 {h : sm_H} {d : Nat} {Q : Option mi_V → sm_H → Prop} {zf zt zm zk : Int} (hS : ab_Sh sx_sk h) (ok_zf : mi_in zf) (ok_zt : mi_in zt) (ok_zm : mi_in zm) (ok_zk : mi_in zk) (ho : (zm = ((0 : Int))) ∧ (zm = 0 ∨ zm = 1)) (kon : ∀ h1, me_W [] h h1 → Q (some (.inl (zm))) h1) : me_E (d + 6) 26 20 [some (.inr (.inr 52)), some (.inr (.inr 4)), some (.inl (zf)), some (.inl (zt)), some (.inl (zm)), some (.inl (zk))] [] h Q := mf_seg (mp_h4C_0 h d zf zt zm zk) (mi_tab_h4C_0) hS (mi_okL_c (trivial) (mi_okL_c (trivial) (mi_okL_c (ok_zf) (mi_okL_c (ok_zt) (mi_okL_c (ok_zm) (mi_okL_c (ok_zk) (mi_okL_e))))))) (mi_okS_e) (mi_al (ho.1) (mi_al_e)) (fun h1 W _ hst => mf_ret (M := (6, 4, sb_26)) rfl rfl rfl hst (mi_al (ho.2) mi_al_e) (kon h1 W))
set_option maxRecDepth 20000 in
theorem mp_h4C_1 (h : sm_H) (d : Nat) (zf zt zm zk : Int) : mj_path [(26, (6, 4, sb_26))] sx_sk h 4 [0] (d + 6, 26, 20, [some (.inr (.inr 52)), some (.inr (.inr 4)), some (.inl (zf)), some (.inl (zt)), some (.inl (zm)), some (.inl (zk))], [], [], []) = some ((d + 6, 26, 28, [some (.inr (.inr 52)), some (.inr (.inr 4)), some (.inl (zf)), some (.inl (zt)), some (.inl (zm)), some (.inl (zk))], [.inr (.inr 4), .inl (zk)], [], []), [zm ≠ ((0 : Int))]) := rfl
theorem mi_tab_h4C_1 : ∀ e ∈ ([(26, (6, 4, sb_26))] : mi_T), sc_P e.1 = some e.2 := mi_tb mi_P26 (mi_tb_e)
set_option maxRecDepth 20000 in
theorem ms_h4C_1 {h : sm_H} {d : Nat} {Q : Option mi_V → sm_H → Prop} {zf zt zm zk : Int} (hS : ab_Sh sx_sk h) (ok_zf : mi_in zf) (ok_zt : mi_in zt) (ok_zm : mi_in zm) (ok_zk : mi_in zk) (ho : (zm ≠ ((0 : Int)))) (kon : ∀ h1, me_W [] h h1 → ∃ Q1, me_E (d + 5) 27 0 (mi_entry 1 [.inr (.inr 4)]) [] h1 Q1 ∧ ∀ w h2, (∀ x, w = some x → mi_ok x) → Q1 w h2 → me_E (d + 6) 26 31 [some (.inr (.inr 52)), some (.inr (.inr 4)), some (.inl (zf)), some (.inl (zt)), some (.inl (zm)), some (.inl (zk))] (mi_back w [.inl (zk)]) h2 Q) : me_E (d + 6) 26 20 [some (.inr (.inr 52)), some (.inr (.inr 4)), some (.inl (zf)), some (.inl (zt)), some (.inl (zm)), some (.inl (zk))] [] h Q := mf_seg (mp_h4C_1 h d zf zt zm zk) (mi_tab_h4C_1) hS (mi_okL_c (trivial) (mi_okL_c (trivial) (mi_okL_c (ok_zf) (mi_okL_c (ok_zt) (mi_okL_c (ok_zm) (mi_okL_c (ok_zk) (mi_okL_e))))))) (mi_okS_e) (mi_al (ho) (mi_al_e)) (fun h1 W _ hst => let ⟨_, k1, k2⟩ := kon h1 W; mf_call (M := (6, 4, sb_26)) (M' := (1, 1, sb_27)) rfl rfl rfl rfl (Nat.le_of_ble_eq_true rfl) (Nat.le_of_ble_eq_true rfl) W.1 k1 k2)
set_option maxRecDepth 20000 in
theorem mt_h4C {h : sm_H} {d : Nat} {Q : Option mi_V → sm_H → Prop} {zf zt zm zk : Int} (hS : ab_Sh sx_sk h) (ok_zf : mi_in zf) (ok_zt : mi_in zt) (ok_zm : mi_in zm) (ok_zk : mi_in zk) (k0 : (zm = ((0 : Int))) → ((zm = 0 ∨ zm = 1)) ∧ (∀ h1, ab_Sh sx_sk h1 → ab_Fr [] h h1 → Q (some (.inl (zm))) h1)) (k1 : (zm ≠ ((0 : Int))) → (∀ h1, ab_Sh sx_sk h1 → ab_Fr [] h h1 → ∃ Q1, me_E (d + 5) 27 0 (mi_entry 1 [.inr (.inr 4)]) [] h1 Q1 ∧ ∀ w h2, (∀ x, w = some x → mi_ok x) → Q1 w h2 → me_E (d + 6) 26 31 [some (.inr (.inr 52)), some (.inr (.inr 4)), some (.inl (zf)), some (.inl (zt)), some (.inl (zm)), some (.inl (zk))] (mi_back w [.inl (zk)]) h2 Q)) : me_E (d + 6) 26 20 [some (.inr (.inr 52)), some (.inr (.inr 4)), some (.inl (zf)), some (.inl (zt)), some (.inl (zm)), some (.inl (zk))] [] h Q := Or.elim (mi_em .eq (zm) (((0 : Int)))) (fun c0 => ms_h4C_0 hS ok_zf ok_zt ok_zm ok_zk ⟨c0, (k0 c0).1⟩ (fun h1 W => (k0 c0).2 h1 W.1 (W.2.2.2.2.2 _ rfl))) (fun c0 => ms_h4C_1 hS ok_zf ok_zt ok_zm ok_zk (c0) (fun h1 W => (k1 c0) h1 W.1 (W.2.2.2.2.2 _ rfl)))
set_option maxRecDepth 20000 in
theorem mp_h4D_0 (h : sm_H) (d : Nat) (zf zt zm zk zl zy : Int) : mj_path [(26, (6, 4, sb_26))] sx_sk h 2 [1] (d + 6, 26, 31, [some (.inr (.inr 52)), some (.inr (.inr 4)), some (.inl (zf)), some (.inl (zt)), some (.inl (zm)), some (.inl (zk))], [.inl (zl), .inl (zy)], [], []) = some ((d + 6, 26, 66, [some (.inr (.inr 52)), some (.inr (.inr 4)), some (.inl (zf)), some (.inl (zt)), some (.inl (zm)), some (.inl (zk))], [.inl (zm)], [], []), [zl ≤ zy]) := rfl
theorem mi_tab_h4D_0 : ∀ e ∈ ([(26, (6, 4, sb_26))] : mi_T), sc_P e.1 = some e.2 := mi_tb mi_P26 (mi_tb_e)
set_option maxRecDepth 20000 in
theorem ms_h4D_0 {h : sm_H} {d : Nat} {Q : Option mi_V → sm_H → Prop} {zf zt zm zk zl zy : Int} (hS : ab_Sh sx_sk h) (ok_zf : mi_in zf) (ok_zt : mi_in zt) (ok_zm : mi_in zm) (ok_zk : mi_in zk) (ok_zl : mi_in zl) (ok_zy : mi_in zy) (ho : (zl ≤ zy) ∧ (zm = 0 ∨ zm = 1)) (kon : ∀ h1, me_W [] h h1 → Q (some (.inl (zm))) h1) : me_E (d + 6) 26 31 [some (.inr (.inr 52)), some (.inr (.inr 4)), some (.inl (zf)), some (.inl (zt)), some (.inl (zm)), some (.inl (zk))] [.inl (zl), .inl (zy)] h Q := mf_seg (mp_h4D_0 h d zf zt zm zk zl zy) (mi_tab_h4D_0) hS (mi_okL_c (trivial) (mi_okL_c (trivial) (mi_okL_c (ok_zf) (mi_okL_c (ok_zt) (mi_okL_c (ok_zm) (mi_okL_c (ok_zk) (mi_okL_e))))))) (mi_okS_cons (ok_zl) (mi_okS_cons (ok_zy) (mi_okS_e))) (mi_al (ho.1) (mi_al_e)) (fun h1 W _ hst => mf_ret (M := (6, 4, sb_26)) rfl rfl rfl hst (mi_al (ho.2) mi_al_e) (kon h1 W))
set_option maxRecDepth 20000 in
theorem mp_h4D_1 (h : sm_H) (d : Nat) (zf zt zm zk zl zy : Int) : mj_path [(26, (6, 4, sb_26))] sx_sk h 3 [0] (d + 6, 26, 31, [some (.inr (.inr 52)), some (.inr (.inr 4)), some (.inl (zf)), some (.inl (zt)), some (.inl (zm)), some (.inl (zk))], [.inl (zl), .inl (zy)], [], []) = some ((d + 6, 26, 37, [some (.inr (.inr 52)), some (.inr (.inr 4)), some (.inl (zf)), some (.inl (zt)), some (.inl (zm)), some (.inl (zk))], [.inl (zk), .inr (.inr 4)], [], []), [zy < zl]) := rfl
theorem mi_tab_h4D_1 : ∀ e ∈ ([(26, (6, 4, sb_26))] : mi_T), sc_P e.1 = some e.2 := mi_tb mi_P26 (mi_tb_e)
set_option maxRecDepth 20000 in
theorem ms_h4D_1 {h : sm_H} {d : Nat} {Q : Option mi_V → sm_H → Prop} {zf zt zm zk zl zy : Int} (hS : ab_Sh sx_sk h) (ok_zf : mi_in zf) (ok_zt : mi_in zt) (ok_zm : mi_in zm) (ok_zk : mi_in zk) (ok_zl : mi_in zl) (ok_zy : mi_in zy) (ho : (zy < zl)) (kon : ∀ h1, me_W [] h h1 → ∃ Q1, me_E (d + 5) 29 0 (mi_entry 2 [.inr (.inr 4), .inl (zk)]) [] h1 Q1 ∧ ∀ w h2, (∀ x, w = some x → mi_ok x) → Q1 w h2 → me_E (d + 6) 26 40 [some (.inr (.inr 52)), some (.inr (.inr 4)), some (.inl (zf)), some (.inl (zt)), some (.inl (zm)), some (.inl (zk))] (mi_back w []) h2 Q) : me_E (d + 6) 26 31 [some (.inr (.inr 52)), some (.inr (.inr 4)), some (.inl (zf)), some (.inl (zt)), some (.inl (zm)), some (.inl (zk))] [.inl (zl), .inl (zy)] h Q := mf_seg (mp_h4D_1 h d zf zt zm zk zl zy) (mi_tab_h4D_1) hS (mi_okL_c (trivial) (mi_okL_c (trivial) (mi_okL_c (ok_zf) (mi_okL_c (ok_zt) (mi_okL_c (ok_zm) (mi_okL_c (ok_zk) (mi_okL_e))))))) (mi_okS_cons (ok_zl) (mi_okS_cons (ok_zy) (mi_okS_e))) (mi_al (ho) (mi_al_e)) (fun h1 W _ hst => let ⟨_, k1, k2⟩ := kon h1 W; mf_call (M := (6, 4, sb_26)) (M' := (2, 5, sb_29)) rfl rfl rfl rfl (Nat.le_of_ble_eq_true rfl) (Nat.le_of_ble_eq_true rfl) W.1 k1 k2)
set_option maxRecDepth 20000 in
theorem mt_h4D {h : sm_H} {d : Nat} {Q : Option mi_V → sm_H → Prop} {zf zt zm zk zl zy : Int} (hS : ab_Sh sx_sk h) (ok_zf : mi_in zf) (ok_zt : mi_in zt) (ok_zm : mi_in zm) (ok_zk : mi_in zk) (ok_zl : mi_in zl) (ok_zy : mi_in zy) (k0 : (zl ≤ zy) → ((zm = 0 ∨ zm = 1)) ∧ (∀ h1, ab_Sh sx_sk h1 → ab_Fr [] h h1 → Q (some (.inl (zm))) h1)) (k1 : (zy < zl) → (∀ h1, ab_Sh sx_sk h1 → ab_Fr [] h h1 → ∃ Q1, me_E (d + 5) 29 0 (mi_entry 2 [.inr (.inr 4), .inl (zk)]) [] h1 Q1 ∧ ∀ w h2, (∀ x, w = some x → mi_ok x) → Q1 w h2 → me_E (d + 6) 26 40 [some (.inr (.inr 52)), some (.inr (.inr 4)), some (.inl (zf)), some (.inl (zt)), some (.inl (zm)), some (.inl (zk))] (mi_back w []) h2 Q)) : me_E (d + 6) 26 31 [some (.inr (.inr 52)), some (.inr (.inr 4)), some (.inl (zf)), some (.inl (zt)), some (.inl (zm)), some (.inl (zk))] [.inl (zl), .inl (zy)] h Q := Or.elim (mi_em .ge (zy) (zl)) (fun c0 => ms_h4D_0 hS ok_zf ok_zt ok_zm ok_zk ok_zl ok_zy ⟨c0, (k0 c0).1⟩ (fun h1 W => (k0 c0).2 h1 W.1 (W.2.2.2.2.2 _ rfl))) (fun c0 => ms_h4D_1 hS ok_zf ok_zt ok_zm ok_zk ok_zl ok_zy (c0) (fun h1 W => (k1 c0) h1 W.1 (W.2.2.2.2.2 _ rfl)))
set_option maxRecDepth 20000 in
theorem mp_h4E_0 (h : sm_H) (d : Nat) (zf zt zm zk zc : Int) : mj_path [(26, (6, 4, sb_26))] sx_sk h 4 [8] (d + 6, 26, 40, [some (.inr (.inr 52)), some (.inr (.inr 4)), some (.inl (zf)), some (.inl (zt)), some (.inl (zm)), some (.inl (zk))], [.inl (zc)], [], []) = some ((d + 6, 26, 45, [some (.inr (.inr 52)), some (.inr (.inr 4)), some (.inl (zf)), some (.inl (zt)), some (.inl (zm)), some (.inl (zk))], [.inl (zf + zk), .inr (.inr 52), .inl (zc)], [], []), [-2147483648 ≤ zf + zk ∧ zf + zk ≤ 2147483647]) := rfl
theorem mi_tab_h4E_0 : ∀ e ∈ ([(26, (6, 4, sb_26))] : mi_T), sc_P e.1 = some e.2 := mi_tb mi_P26 (mi_tb_e)
set_option maxRecDepth 20000 in
theorem ms_h4E_0 {h : sm_H} {d : Nat} {Q : Option mi_V → sm_H → Prop} {zf zt zm zk zc : Int} (hS : ab_Sh sx_sk h) (ok_zf : mi_in zf) (ok_zt : mi_in zt) (ok_zm : mi_in zm) (ok_zk : mi_in zk) (ok_zc : mi_in zc) (ho : (-2147483648 ≤ zf + zk ∧ zf + zk ≤ 2147483647)) (kon : ∀ h1, me_W [] h h1 → ∃ Q1, me_E (d + 5) 20 0 (mi_entry 2 [.inr (.inr 52), .inl (zf + zk)]) [] h1 Q1 ∧ ∀ w h2, (∀ x, w = some x → mi_ok x) → Q1 w h2 → me_E (d + 6) 26 48 [some (.inr (.inr 52)), some (.inr (.inr 4)), some (.inl (zf)), some (.inl (zt)), some (.inl (zm)), some (.inl (zk))] (mi_back w [.inl (zc)]) h2 Q) : me_E (d + 6) 26 40 [some (.inr (.inr 52)), some (.inr (.inr 4)), some (.inl (zf)), some (.inl (zt)), some (.inl (zm)), some (.inl (zk))] [.inl (zc)] h Q := mf_seg (mp_h4E_0 h d zf zt zm zk zc) (mi_tab_h4E_0) hS (mi_okL_c (trivial) (mi_okL_c (trivial) (mi_okL_c (ok_zf) (mi_okL_c (ok_zt) (mi_okL_c (ok_zm) (mi_okL_c (ok_zk) (mi_okL_e))))))) (mi_okS_cons (ok_zc) (mi_okS_e)) (mi_al (ho) (mi_al_e)) (fun h1 W _ hst => let ⟨_, k1, k2⟩ := kon h1 W; mf_call (M := (6, 4, sb_26)) (M' := (2, 5, sb_20)) rfl rfl rfl rfl (Nat.le_of_ble_eq_true rfl) (Nat.le_of_ble_eq_true rfl) W.1 k1 k2)
set_option maxRecDepth 20000 in
theorem mt_h4E {h : sm_H} {d : Nat} {Q : Option mi_V → sm_H → Prop} {zf zt zm zk zc : Int} (hS : ab_Sh sx_sk h) (ok_zf : mi_in zf) (ok_zt : mi_in zt) (ok_zm : mi_in zm) (ok_zk : mi_in zk) (ok_zc : mi_in zc) (k0 : ((-2147483648 ≤ zf + zk ∧ zf + zk ≤ 2147483647)) ∧ (∀ h1, ab_Sh sx_sk h1 → ab_Fr [] h h1 → ∃ Q1, me_E (d + 5) 20 0 (mi_entry 2 [.inr (.inr 52), .inl (zf + zk)]) [] h1 Q1 ∧ ∀ w h2, (∀ x, w = some x → mi_ok x) → Q1 w h2 → me_E (d + 6) 26 48 [some (.inr (.inr 52)), some (.inr (.inr 4)), some (.inl (zf)), some (.inl (zt)), some (.inl (zm)), some (.inl (zk))] (mi_back w [.inl (zc)]) h2 Q)) : me_E (d + 6) 26 40 [some (.inr (.inr 52)), some (.inr (.inr 4)), some (.inl (zf)), some (.inl (zt)), some (.inl (zm)), some (.inl (zk))] [.inl (zc)] h Q := ms_h4E_0 hS ok_zf ok_zt ok_zm ok_zk ok_zc ((k0).1) (fun h1 W => (k0).2 h1 W.1 (W.2.2.2.2.2 _ rfl))
set_option maxRecDepth 20000 in
theorem mp_h4F_0 (h : sm_H) (d : Nat) (zf zt zm zk zz zc : Int) : mj_path [(26, (6, 4, sb_26))] sx_sk h 5 [1] (d + 6, 26, 48, [some (.inr (.inr 52)), some (.inr (.inr 4)), some (.inl (zf)), some (.inl (zt)), some (.inl (zm)), some (.inl (zk))], [.inl (zz), .inl (zc)], [], []) = some ((d + 6, 26, 20, [some (.inr (.inr 52)), some (.inr (.inr 4)), some (.inl (zf)), some (.inl (zt)), some (.inl ((0 : Int))), some (.inl (zk + 1))], [], [], []), [zc ≠ zz, -2147483648 ≤ zk + 1 ∧ zk + 1 ≤ 2147483647]) := rfl
theorem mi_tab_h4F_0 : ∀ e ∈ ([(26, (6, 4, sb_26))] : mi_T), sc_P e.1 = some e.2 := mi_tb mi_P26 (mi_tb_e)
set_option maxRecDepth 20000 in
theorem ms_h4F_0 {h : sm_H} {d : Nat} {Q : Option mi_V → sm_H → Prop} {zf zt zm zk zz zc : Int} (hS : ab_Sh sx_sk h) (ok_zf : mi_in zf) (ok_zt : mi_in zt) (ok_zm : mi_in zm) (ok_zk : mi_in zk) (ok_zz : mi_in zz) (ok_zc : mi_in zc) (ho : (zc ≠ zz) ∧ (-2147483648 ≤ zk + 1 ∧ zk + 1 ≤ 2147483647)) (kon : ∀ h1, me_W [] h h1 → me_E (d + 6) 26 20 [some (.inr (.inr 52)), some (.inr (.inr 4)), some (.inl (zf)), some (.inl (zt)), some (.inl ((0 : Int))), some (.inl (zk + 1))] [] h1 Q) : me_E (d + 6) 26 48 [some (.inr (.inr 52)), some (.inr (.inr 4)), some (.inl (zf)), some (.inl (zt)), some (.inl (zm)), some (.inl (zk))] [.inl (zz), .inl (zc)] h Q := mf_seg (mp_h4F_0 h d zf zt zm zk zz zc) (mi_tab_h4F_0) hS (mi_okL_c (trivial) (mi_okL_c (trivial) (mi_okL_c (ok_zf) (mi_okL_c (ok_zt) (mi_okL_c (ok_zm) (mi_okL_c (ok_zk) (mi_okL_e))))))) (mi_okS_cons (ok_zz) (mi_okS_cons (ok_zc) (mi_okS_e))) (mi_al (ho.1) (mi_al (ho.2) (mi_al_e))) (fun h1 W _ hst => kon h1 W)
set_option maxRecDepth 20000 in
theorem mp_h4F_1 (h : sm_H) (d : Nat) (zf zt zm zk zz zc : Int) : mj_path [(26, (6, 4, sb_26))] sx_sk h 6 [0] (d + 6, 26, 48, [some (.inr (.inr 52)), some (.inr (.inr 4)), some (.inl (zf)), some (.inl (zt)), some (.inl (zm)), some (.inl (zk))], [.inl (zz), .inl (zc)], [], []) = some ((d + 6, 26, 20, [some (.inr (.inr 52)), some (.inr (.inr 4)), some (.inl (zf)), some (.inl (zt)), some (.inl ((1 : Int))), some (.inl (zk + 1))], [], [], []), [zc = zz, -2147483648 ≤ zk + 1 ∧ zk + 1 ≤ 2147483647]) := rfl
theorem mi_tab_h4F_1 : ∀ e ∈ ([(26, (6, 4, sb_26))] : mi_T), sc_P e.1 = some e.2 := mi_tb mi_P26 (mi_tb_e)
set_option maxRecDepth 20000 in
theorem ms_h4F_1 {h : sm_H} {d : Nat} {Q : Option mi_V → sm_H → Prop} {zf zt zm zk zz zc : Int} (hS : ab_Sh sx_sk h) (ok_zf : mi_in zf) (ok_zt : mi_in zt) (ok_zm : mi_in zm) (ok_zk : mi_in zk) (ok_zz : mi_in zz) (ok_zc : mi_in zc) (ho : (zc = zz) ∧ (-2147483648 ≤ zk + 1 ∧ zk + 1 ≤ 2147483647)) (kon : ∀ h1, me_W [] h h1 → me_E (d + 6) 26 20 [some (.inr (.inr 52)), some (.inr (.inr 4)), some (.inl (zf)), some (.inl (zt)), some (.inl ((1 : Int))), some (.inl (zk + 1))] [] h1 Q) : me_E (d + 6) 26 48 [some (.inr (.inr 52)), some (.inr (.inr 4)), some (.inl (zf)), some (.inl (zt)), some (.inl (zm)), some (.inl (zk))] [.inl (zz), .inl (zc)] h Q := mf_seg (mp_h4F_1 h d zf zt zm zk zz zc) (mi_tab_h4F_1) hS (mi_okL_c (trivial) (mi_okL_c (trivial) (mi_okL_c (ok_zf) (mi_okL_c (ok_zt) (mi_okL_c (ok_zm) (mi_okL_c (ok_zk) (mi_okL_e))))))) (mi_okS_cons (ok_zz) (mi_okS_cons (ok_zc) (mi_okS_e))) (mi_al (ho.1) (mi_al (ho.2) (mi_al_e))) (fun h1 W _ hst => kon h1 W)
set_option maxRecDepth 20000 in
theorem mt_h4F {h : sm_H} {d : Nat} {Q : Option mi_V → sm_H → Prop} {zf zt zm zk zz zc : Int} (hS : ab_Sh sx_sk h) (ok_zf : mi_in zf) (ok_zt : mi_in zt) (ok_zm : mi_in zm) (ok_zk : mi_in zk) (ok_zz : mi_in zz) (ok_zc : mi_in zc) (k0 : (zc ≠ zz) → ((-2147483648 ≤ zk + 1 ∧ zk + 1 ≤ 2147483647)) ∧ (∀ h1, ab_Sh sx_sk h1 → ab_Fr [] h h1 → me_E (d + 6) 26 20 [some (.inr (.inr 52)), some (.inr (.inr 4)), some (.inl (zf)), some (.inl (zt)), some (.inl ((0 : Int))), some (.inl (zk + 1))] [] h1 Q)) (k1 : (zc = zz) → ((-2147483648 ≤ zk + 1 ∧ zk + 1 ≤ 2147483647)) ∧ (∀ h1, ab_Sh sx_sk h1 → ab_Fr [] h h1 → me_E (d + 6) 26 20 [some (.inr (.inr 52)), some (.inr (.inr 4)), some (.inl (zf)), some (.inl (zt)), some (.inl ((1 : Int))), some (.inl (zk + 1))] [] h1 Q)) : me_E (d + 6) 26 48 [some (.inr (.inr 52)), some (.inr (.inr 4)), some (.inl (zf)), some (.inl (zt)), some (.inl (zm)), some (.inl (zk))] [.inl (zz), .inl (zc)] h Q := Or.elim (mi_em .ne (zc) (zz)) (fun c0 => ms_h4F_0 hS ok_zf ok_zt ok_zm ok_zk ok_zz ok_zc ⟨c0, (k0 c0).1⟩ (fun h1 W => (k0 c0).2 h1 W.1 (W.2.2.2.2.2 _ rfl))) (fun c0 => ms_h4F_1 hS ok_zf ok_zt ok_zm ok_zk ok_zz ok_zc ⟨c0, (k1 c0).1⟩ (fun h1 W => (k1 c0).2 h1 W.1 (W.2.2.2.2.2 _ rfl)))
set_option maxRecDepth 20000 in
theorem mp_h5A_0 (h : sm_H) (d : Nat) (zf zt : Int) : mj_path [(26, (6, 4, sb_26))] sx_sk h 4 [8] (d + 6, 26, 0, [some (.inr (.inr 52)), some (.inr (.inr 5)), some (.inl (zf)), some (.inl (zt)), none, none], [], [], []) = some ((d + 6, 26, 4, [some (.inr (.inr 52)), some (.inr (.inr 5)), some (.inl (zf)), some (.inl (zt)), none, none], [.inr (.inr 5), .inl (zt - zf)], [], []), [-2147483648 ≤ zt - zf ∧ zt - zf ≤ 2147483647]) := rfl
theorem mi_tab_h5A_0 : ∀ e ∈ ([(26, (6, 4, sb_26))] : mi_T), sc_P e.1 = some e.2 := mi_tb mi_P26 (mi_tb_e)
set_option maxRecDepth 20000 in
theorem ms_h5A_0 {h : sm_H} {d : Nat} {Q : Option mi_V → sm_H → Prop} {zf zt : Int} (hS : ab_Sh sx_sk h) (ok_zf : mi_in zf) (ok_zt : mi_in zt) (ho : (-2147483648 ≤ zt - zf ∧ zt - zf ≤ 2147483647)) (kon : ∀ h1, me_W [] h h1 → ∃ Q1, me_E (d + 5) 27 0 (mi_entry 1 [.inr (.inr 5)]) [] h1 Q1 ∧ ∀ w h2, (∀ x, w = some x → mi_ok x) → Q1 w h2 → me_E (d + 6) 26 7 [some (.inr (.inr 52)), some (.inr (.inr 5)), some (.inl (zf)), some (.inl (zt)), none, none] (mi_back w [.inl (zt - zf)]) h2 Q) : me_E (d + 6) 26 0 [some (.inr (.inr 52)), some (.inr (.inr 5)), some (.inl (zf)), some (.inl (zt)), none, none] [] h Q := mf_seg (mp_h5A_0 h d zf zt) (mi_tab_h5A_0) hS (mi_okL_c (trivial) (mi_okL_c (trivial) (mi_okL_c (ok_zf) (mi_okL_c (ok_zt) (mi_okL_n (mi_okL_n (mi_okL_e))))))) (mi_okS_e) (mi_al (ho) (mi_al_e)) (fun h1 W _ hst => let ⟨_, k1, k2⟩ := kon h1 W; mf_call (M := (6, 4, sb_26)) (M' := (1, 1, sb_27)) rfl rfl rfl rfl (Nat.le_of_ble_eq_true rfl) (Nat.le_of_ble_eq_true rfl) W.1 k1 k2)
set_option maxRecDepth 20000 in
theorem mt_h5A {h : sm_H} {d : Nat} {Q : Option mi_V → sm_H → Prop} {zf zt : Int} (hS : ab_Sh sx_sk h) (ok_zf : mi_in zf) (ok_zt : mi_in zt) (k0 : ((-2147483648 ≤ zt - zf ∧ zt - zf ≤ 2147483647)) ∧ (∀ h1, ab_Sh sx_sk h1 → ab_Fr [] h h1 → ∃ Q1, me_E (d + 5) 27 0 (mi_entry 1 [.inr (.inr 5)]) [] h1 Q1 ∧ ∀ w h2, (∀ x, w = some x → mi_ok x) → Q1 w h2 → me_E (d + 6) 26 7 [some (.inr (.inr 52)), some (.inr (.inr 5)), some (.inl (zf)), some (.inl (zt)), none, none] (mi_back w [.inl (zt - zf)]) h2 Q)) : me_E (d + 6) 26 0 [some (.inr (.inr 52)), some (.inr (.inr 5)), some (.inl (zf)), some (.inl (zt)), none, none] [] h Q := ms_h5A_0 hS ok_zf ok_zt ((k0).1) (fun h1 W => (k0).2 h1 W.1 (W.2.2.2.2.2 _ rfl))
set_option maxRecDepth 20000 in
theorem mp_h5B_0 (h : sm_H) (d : Nat) (zf zt zl zs : Int) : mj_path [(26, (6, 4, sb_26))] sx_sk h 5 [1] (d + 6, 26, 7, [some (.inr (.inr 52)), some (.inr (.inr 5)), some (.inl (zf)), some (.inl (zt)), none, none], [.inl (zl), .inl (zs)], [], []) = some ((d + 6, 26, 20, [some (.inr (.inr 52)), some (.inr (.inr 5)), some (.inl (zf)), some (.inl (zt)), some (.inl ((0 : Int))), some (.inl ((0 : Int)))], [], [], []), [zs ≠ zl]) := rfl
theorem mi_tab_h5B_0 : ∀ e ∈ ([(26, (6, 4, sb_26))] : mi_T), sc_P e.1 = some e.2 := mi_tb mi_P26 (mi_tb_e)
set_option maxRecDepth 20000 in
theorem ms_h5B_0 {h : sm_H} {d : Nat} {Q : Option mi_V → sm_H → Prop} {zf zt zl zs : Int} (hS : ab_Sh sx_sk h) (ok_zf : mi_in zf) (ok_zt : mi_in zt) (ok_zl : mi_in zl) (ok_zs : mi_in zs) (ho : (zs ≠ zl)) (kon : ∀ h1, me_W [] h h1 → me_E (d + 6) 26 20 [some (.inr (.inr 52)), some (.inr (.inr 5)), some (.inl (zf)), some (.inl (zt)), some (.inl ((0 : Int))), some (.inl ((0 : Int)))] [] h1 Q) : me_E (d + 6) 26 7 [some (.inr (.inr 52)), some (.inr (.inr 5)), some (.inl (zf)), some (.inl (zt)), none, none] [.inl (zl), .inl (zs)] h Q := mf_seg (mp_h5B_0 h d zf zt zl zs) (mi_tab_h5B_0) hS (mi_okL_c (trivial) (mi_okL_c (trivial) (mi_okL_c (ok_zf) (mi_okL_c (ok_zt) (mi_okL_n (mi_okL_n (mi_okL_e))))))) (mi_okS_cons (ok_zl) (mi_okS_cons (ok_zs) (mi_okS_e))) (mi_al (ho) (mi_al_e)) (fun h1 W _ hst => kon h1 W)
set_option maxRecDepth 20000 in
theorem mp_h5B_1 (h : sm_H) (d : Nat) (zf zt zl zs : Int) : mj_path [(26, (6, 4, sb_26))] sx_sk h 6 [0] (d + 6, 26, 7, [some (.inr (.inr 52)), some (.inr (.inr 5)), some (.inl (zf)), some (.inl (zt)), none, none], [.inl (zl), .inl (zs)], [], []) = some ((d + 6, 26, 20, [some (.inr (.inr 52)), some (.inr (.inr 5)), some (.inl (zf)), some (.inl (zt)), some (.inl ((1 : Int))), some (.inl ((0 : Int)))], [], [], []), [zs = zl]) := rfl
theorem mi_tab_h5B_1 : ∀ e ∈ ([(26, (6, 4, sb_26))] : mi_T), sc_P e.1 = some e.2 := mi_tb mi_P26 (mi_tb_e)
set_option maxRecDepth 20000 in
theorem ms_h5B_1 {h : sm_H} {d : Nat} {Q : Option mi_V → sm_H → Prop} {zf zt zl zs : Int} (hS : ab_Sh sx_sk h) (ok_zf : mi_in zf) (ok_zt : mi_in zt) (ok_zl : mi_in zl) (ok_zs : mi_in zs) (ho : (zs = zl)) (kon : ∀ h1, me_W [] h h1 → me_E (d + 6) 26 20 [some (.inr (.inr 52)), some (.inr (.inr 5)), some (.inl (zf)), some (.inl (zt)), some (.inl ((1 : Int))), some (.inl ((0 : Int)))] [] h1 Q) : me_E (d + 6) 26 7 [some (.inr (.inr 52)), some (.inr (.inr 5)), some (.inl (zf)), some (.inl (zt)), none, none] [.inl (zl), .inl (zs)] h Q := mf_seg (mp_h5B_1 h d zf zt zl zs) (mi_tab_h5B_1) hS (mi_okL_c (trivial) (mi_okL_c (trivial) (mi_okL_c (ok_zf) (mi_okL_c (ok_zt) (mi_okL_n (mi_okL_n (mi_okL_e))))))) (mi_okS_cons (ok_zl) (mi_okS_cons (ok_zs) (mi_okS_e))) (mi_al (ho) (mi_al_e)) (fun h1 W _ hst => kon h1 W)
set_option maxRecDepth 20000 in
theorem mt_h5B {h : sm_H} {d : Nat} {Q : Option mi_V → sm_H → Prop} {zf zt zl zs : Int} (hS : ab_Sh sx_sk h) (ok_zf : mi_in zf) (ok_zt : mi_in zt) (ok_zl : mi_in zl) (ok_zs : mi_in zs) (k0 : (zs ≠ zl) → (∀ h1, ab_Sh sx_sk h1 → ab_Fr [] h h1 → me_E (d + 6) 26 20 [some (.inr (.inr 52)), some (.inr (.inr 5)), some (.inl (zf)), some (.inl (zt)), some (.inl ((0 : Int))), some (.inl ((0 : Int)))] [] h1 Q)) (k1 : (zs = zl) → (∀ h1, ab_Sh sx_sk h1 → ab_Fr [] h h1 → me_E (d + 6) 26 20 [some (.inr (.inr 52)), some (.inr (.inr 5)), some (.inl (zf)), some (.inl (zt)), some (.inl ((1 : Int))), some (.inl ((0 : Int)))] [] h1 Q)) : me_E (d + 6) 26 7 [some (.inr (.inr 52)), some (.inr (.inr 5)), some (.inl (zf)), some (.inl (zt)), none, none] [.inl (zl), .inl (zs)] h Q := Or.elim (mi_em .ne (zs) (zl)) (fun c0 => ms_h5B_0 hS ok_zf ok_zt ok_zl ok_zs (c0) (fun h1 W => (k0 c0) h1 W.1 (W.2.2.2.2.2 _ rfl))) (fun c0 => ms_h5B_1 hS ok_zf ok_zt ok_zl ok_zs (c0) (fun h1 W => (k1 c0) h1 W.1 (W.2.2.2.2.2 _ rfl)))
set_option maxRecDepth 20000 in
theorem mp_h5C_0 (h : sm_H) (d : Nat) (zf zt zm zk : Int) : mj_path [(26, (6, 4, sb_26))] sx_sk h 3 [1] (d + 6, 26, 20, [some (.inr (.inr 52)), some (.inr (.inr 5)), some (.inl (zf)), some (.inl (zt)), some (.inl (zm)), some (.inl (zk))], [], [], []) = some ((d + 6, 26, 66, [some (.inr (.inr 52)), some (.inr (.inr 5)), some (.inl (zf)), some (.inl (zt)), some (.inl (zm)), some (.inl (zk))], [.inl (zm)], [], []), [zm = ((0 : Int))]) := rfl
theorem mi_tab_h5C_0 : ∀ e ∈ ([(26, (6, 4, sb_26))] : mi_T), sc_P e.1 = some e.2 := mi_tb mi_P26 (mi_tb_e)
set_option maxRecDepth 20000 in
theorem ms_h5C_0 {h : sm_H} {d : Nat} {Q : Option mi_V → sm_H → Prop} {zf zt zm zk : Int} (hS : ab_Sh sx_sk h) (ok_zf : mi_in zf) (ok_zt : mi_in zt) (ok_zm : mi_in zm) (ok_zk : mi_in zk) (ho : (zm = ((0 : Int))) ∧ (zm = 0 ∨ zm = 1)) (kon : ∀ h1, me_W [] h h1 → Q (some (.inl (zm))) h1) : me_E (d + 6) 26 20 [some (.inr (.inr 52)), some (.inr (.inr 5)), some (.inl (zf)), some (.inl (zt)), some (.inl (zm)), some (.inl (zk))] [] h Q := mf_seg (mp_h5C_0 h d zf zt zm zk) (mi_tab_h5C_0) hS (mi_okL_c (trivial) (mi_okL_c (trivial) (mi_okL_c (ok_zf) (mi_okL_c (ok_zt) (mi_okL_c (ok_zm) (mi_okL_c (ok_zk) (mi_okL_e))))))) (mi_okS_e) (mi_al (ho.1) (mi_al_e)) (fun h1 W _ hst => mf_ret (M := (6, 4, sb_26)) rfl rfl rfl hst (mi_al (ho.2) mi_al_e) (kon h1 W))
set_option maxRecDepth 20000 in
theorem mp_h5C_1 (h : sm_H) (d : Nat) (zf zt zm zk : Int) : mj_path [(26, (6, 4, sb_26))] sx_sk h 4 [0] (d + 6, 26, 20, [some (.inr (.inr 52)), some (.inr (.inr 5)), some (.inl (zf)), some (.inl (zt)), some (.inl (zm)), some (.inl (zk))], [], [], []) = some ((d + 6, 26, 28, [some (.inr (.inr 52)), some (.inr (.inr 5)), some (.inl (zf)), some (.inl (zt)), some (.inl (zm)), some (.inl (zk))], [.inr (.inr 5), .inl (zk)], [], []), [zm ≠ ((0 : Int))]) := rfl
theorem mi_tab_h5C_1 : ∀ e ∈ ([(26, (6, 4, sb_26))] : mi_T), sc_P e.1 = some e.2 := mi_tb mi_P26 (mi_tb_e)
set_option maxRecDepth 20000 in
theorem ms_h5C_1 {h : sm_H} {d : Nat} {Q : Option mi_V → sm_H → Prop} {zf zt zm zk : Int} (hS : ab_Sh sx_sk h) (ok_zf : mi_in zf) (ok_zt : mi_in zt) (ok_zm : mi_in zm) (ok_zk : mi_in zk) (ho : (zm ≠ ((0 : Int)))) (kon : ∀ h1, me_W [] h h1 → ∃ Q1, me_E (d + 5) 27 0 (mi_entry 1 [.inr (.inr 5)]) [] h1 Q1 ∧ ∀ w h2, (∀ x, w = some x → mi_ok x) → Q1 w h2 → me_E (d + 6) 26 31 [some (.inr (.inr 52)), some (.inr (.inr 5)), some (.inl (zf)), some (.inl (zt)), some (.inl (zm)), some (.inl (zk))] (mi_back w [.inl (zk)]) h2 Q) : me_E (d + 6) 26 20 [some (.inr (.inr 52)), some (.inr (.inr 5)), some (.inl (zf)), some (.inl (zt)), some (.inl (zm)), some (.inl (zk))] [] h Q := mf_seg (mp_h5C_1 h d zf zt zm zk) (mi_tab_h5C_1) hS (mi_okL_c (trivial) (mi_okL_c (trivial) (mi_okL_c (ok_zf) (mi_okL_c (ok_zt) (mi_okL_c (ok_zm) (mi_okL_c (ok_zk) (mi_okL_e))))))) (mi_okS_e) (mi_al (ho) (mi_al_e)) (fun h1 W _ hst => let ⟨_, k1, k2⟩ := kon h1 W; mf_call (M := (6, 4, sb_26)) (M' := (1, 1, sb_27)) rfl rfl rfl rfl (Nat.le_of_ble_eq_true rfl) (Nat.le_of_ble_eq_true rfl) W.1 k1 k2)
set_option maxRecDepth 20000 in
theorem mt_h5C {h : sm_H} {d : Nat} {Q : Option mi_V → sm_H → Prop} {zf zt zm zk : Int} (hS : ab_Sh sx_sk h) (ok_zf : mi_in zf) (ok_zt : mi_in zt) (ok_zm : mi_in zm) (ok_zk : mi_in zk) (k0 : (zm = ((0 : Int))) → ((zm = 0 ∨ zm = 1)) ∧ (∀ h1, ab_Sh sx_sk h1 → ab_Fr [] h h1 → Q (some (.inl (zm))) h1)) (k1 : (zm ≠ ((0 : Int))) → (∀ h1, ab_Sh sx_sk h1 → ab_Fr [] h h1 → ∃ Q1, me_E (d + 5) 27 0 (mi_entry 1 [.inr (.inr 5)]) [] h1 Q1 ∧ ∀ w h2, (∀ x, w = some x → mi_ok x) → Q1 w h2 → me_E (d + 6) 26 31 [some (.inr (.inr 52)), some (.inr (.inr 5)), some (.inl (zf)), some (.inl (zt)), some (.inl (zm)), some (.inl (zk))] (mi_back w [.inl (zk)]) h2 Q)) : me_E (d + 6) 26 20 [some (.inr (.inr 52)), some (.inr (.inr 5)), some (.inl (zf)), some (.inl (zt)), some (.inl (zm)), some (.inl (zk))] [] h Q := Or.elim (mi_em .eq (zm) (((0 : Int)))) (fun c0 => ms_h5C_0 hS ok_zf ok_zt ok_zm ok_zk ⟨c0, (k0 c0).1⟩ (fun h1 W => (k0 c0).2 h1 W.1 (W.2.2.2.2.2 _ rfl))) (fun c0 => ms_h5C_1 hS ok_zf ok_zt ok_zm ok_zk (c0) (fun h1 W => (k1 c0) h1 W.1 (W.2.2.2.2.2 _ rfl)))
set_option maxRecDepth 20000 in
theorem mp_h5D_0 (h : sm_H) (d : Nat) (zf zt zm zk zl zy : Int) : mj_path [(26, (6, 4, sb_26))] sx_sk h 2 [1] (d + 6, 26, 31, [some (.inr (.inr 52)), some (.inr (.inr 5)), some (.inl (zf)), some (.inl (zt)), some (.inl (zm)), some (.inl (zk))], [.inl (zl), .inl (zy)], [], []) = some ((d + 6, 26, 66, [some (.inr (.inr 52)), some (.inr (.inr 5)), some (.inl (zf)), some (.inl (zt)), some (.inl (zm)), some (.inl (zk))], [.inl (zm)], [], []), [zl ≤ zy]) := rfl
theorem mi_tab_h5D_0 : ∀ e ∈ ([(26, (6, 4, sb_26))] : mi_T), sc_P e.1 = some e.2 := mi_tb mi_P26 (mi_tb_e)
set_option maxRecDepth 20000 in
theorem ms_h5D_0 {h : sm_H} {d : Nat} {Q : Option mi_V → sm_H → Prop} {zf zt zm zk zl zy : Int} (hS : ab_Sh sx_sk h) (ok_zf : mi_in zf) (ok_zt : mi_in zt) (ok_zm : mi_in zm) (ok_zk : mi_in zk) (ok_zl : mi_in zl) (ok_zy : mi_in zy) (ho : (zl ≤ zy) ∧ (zm = 0 ∨ zm = 1)) (kon : ∀ h1, me_W [] h h1 → Q (some (.inl (zm))) h1) : me_E (d + 6) 26 31 [some (.inr (.inr 52)), some (.inr (.inr 5)), some (.inl (zf)), some (.inl (zt)), some (.inl (zm)), some (.inl (zk))] [.inl (zl), .inl (zy)] h Q := mf_seg (mp_h5D_0 h d zf zt zm zk zl zy) (mi_tab_h5D_0) hS (mi_okL_c (trivial) (mi_okL_c (trivial) (mi_okL_c (ok_zf) (mi_okL_c (ok_zt) (mi_okL_c (ok_zm) (mi_okL_c (ok_zk) (mi_okL_e))))))) (mi_okS_cons (ok_zl) (mi_okS_cons (ok_zy) (mi_okS_e))) (mi_al (ho.1) (mi_al_e)) (fun h1 W _ hst => mf_ret (M := (6, 4, sb_26)) rfl rfl rfl hst (mi_al (ho.2) mi_al_e) (kon h1 W))
set_option maxRecDepth 20000 in
theorem mp_h5D_1 (h : sm_H) (d : Nat) (zf zt zm zk zl zy : Int) : mj_path [(26, (6, 4, sb_26))] sx_sk h 3 [0] (d + 6, 26, 31, [some (.inr (.inr 52)), some (.inr (.inr 5)), some (.inl (zf)), some (.inl (zt)), some (.inl (zm)), some (.inl (zk))], [.inl (zl), .inl (zy)], [], []) = some ((d + 6, 26, 37, [some (.inr (.inr 52)), some (.inr (.inr 5)), some (.inl (zf)), some (.inl (zt)), some (.inl (zm)), some (.inl (zk))], [.inl (zk), .inr (.inr 5)], [], []), [zy < zl]) := rfl
theorem mi_tab_h5D_1 : ∀ e ∈ ([(26, (6, 4, sb_26))] : mi_T), sc_P e.1 = some e.2 := mi_tb mi_P26 (mi_tb_e)
set_option maxRecDepth 20000 in
theorem ms_h5D_1 {h : sm_H} {d : Nat} {Q : Option mi_V → sm_H → Prop} {zf zt zm zk zl zy : Int} (hS : ab_Sh sx_sk h) (ok_zf : mi_in zf) (ok_zt : mi_in zt) (ok_zm : mi_in zm) (ok_zk : mi_in zk) (ok_zl : mi_in zl) (ok_zy : mi_in zy) (ho : (zy < zl)) (kon : ∀ h1, me_W [] h h1 → ∃ Q1, me_E (d + 5) 29 0 (mi_entry 2 [.inr (.inr 5), .inl (zk)]) [] h1 Q1 ∧ ∀ w h2, (∀ x, w = some x → mi_ok x) → Q1 w h2 → me_E (d + 6) 26 40 [some (.inr (.inr 52)), some (.inr (.inr 5)), some (.inl (zf)), some (.inl (zt)), some (.inl (zm)), some (.inl (zk))] (mi_back w []) h2 Q) : me_E (d + 6) 26 31 [some (.inr (.inr 52)), some (.inr (.inr 5)), some (.inl (zf)), some (.inl (zt)), some (.inl (zm)), some (.inl (zk))] [.inl (zl), .inl (zy)] h Q := mf_seg (mp_h5D_1 h d zf zt zm zk zl zy) (mi_tab_h5D_1) hS (mi_okL_c (trivial) (mi_okL_c (trivial) (mi_okL_c (ok_zf) (mi_okL_c (ok_zt) (mi_okL_c (ok_zm) (mi_okL_c (ok_zk) (mi_okL_e))))))) (mi_okS_cons (ok_zl) (mi_okS_cons (ok_zy) (mi_okS_e))) (mi_al (ho) (mi_al_e)) (fun h1 W _ hst => let ⟨_, k1, k2⟩ := kon h1 W; mf_call (M := (6, 4, sb_26)) (M' := (2, 5, sb_29)) rfl rfl rfl rfl (Nat.le_of_ble_eq_true rfl) (Nat.le_of_ble_eq_true rfl) W.1 k1 k2)
set_option maxRecDepth 20000 in
theorem mt_h5D {h : sm_H} {d : Nat} {Q : Option mi_V → sm_H → Prop} {zf zt zm zk zl zy : Int} (hS : ab_Sh sx_sk h) (ok_zf : mi_in zf) (ok_zt : mi_in zt) (ok_zm : mi_in zm) (ok_zk : mi_in zk) (ok_zl : mi_in zl) (ok_zy : mi_in zy) (k0 : (zl ≤ zy) → ((zm = 0 ∨ zm = 1)) ∧ (∀ h1, ab_Sh sx_sk h1 → ab_Fr [] h h1 → Q (some (.inl (zm))) h1)) (k1 : (zy < zl) → (∀ h1, ab_Sh sx_sk h1 → ab_Fr [] h h1 → ∃ Q1, me_E (d + 5) 29 0 (mi_entry 2 [.inr (.inr 5), .inl (zk)]) [] h1 Q1 ∧ ∀ w h2, (∀ x, w = some x → mi_ok x) → Q1 w h2 → me_E (d + 6) 26 40 [some (.inr (.inr 52)), some (.inr (.inr 5)), some (.inl (zf)), some (.inl (zt)), some (.inl (zm)), some (.inl (zk))] (mi_back w []) h2 Q)) : me_E (d + 6) 26 31 [some (.inr (.inr 52)), some (.inr (.inr 5)), some (.inl (zf)), some (.inl (zt)), some (.inl (zm)), some (.inl (zk))] [.inl (zl), .inl (zy)] h Q := Or.elim (mi_em .ge (zy) (zl)) (fun c0 => ms_h5D_0 hS ok_zf ok_zt ok_zm ok_zk ok_zl ok_zy ⟨c0, (k0 c0).1⟩ (fun h1 W => (k0 c0).2 h1 W.1 (W.2.2.2.2.2 _ rfl))) (fun c0 => ms_h5D_1 hS ok_zf ok_zt ok_zm ok_zk ok_zl ok_zy (c0) (fun h1 W => (k1 c0) h1 W.1 (W.2.2.2.2.2 _ rfl)))
set_option maxRecDepth 20000 in
theorem mp_h5E_0 (h : sm_H) (d : Nat) (zf zt zm zk zc : Int) : mj_path [(26, (6, 4, sb_26))] sx_sk h 4 [8] (d + 6, 26, 40, [some (.inr (.inr 52)), some (.inr (.inr 5)), some (.inl (zf)), some (.inl (zt)), some (.inl (zm)), some (.inl (zk))], [.inl (zc)], [], []) = some ((d + 6, 26, 45, [some (.inr (.inr 52)), some (.inr (.inr 5)), some (.inl (zf)), some (.inl (zt)), some (.inl (zm)), some (.inl (zk))], [.inl (zf + zk), .inr (.inr 52), .inl (zc)], [], []), [-2147483648 ≤ zf + zk ∧ zf + zk ≤ 2147483647]) := rfl
theorem mi_tab_h5E_0 : ∀ e ∈ ([(26, (6, 4, sb_26))] : mi_T), sc_P e.1 = some e.2 := mi_tb mi_P26 (mi_tb_e)
set_option maxRecDepth 20000 in
theorem ms_h5E_0 {h : sm_H} {d : Nat} {Q : Option mi_V → sm_H → Prop} {zf zt zm zk zc : Int} (hS : ab_Sh sx_sk h) (ok_zf : mi_in zf) (ok_zt : mi_in zt) (ok_zm : mi_in zm) (ok_zk : mi_in zk) (ok_zc : mi_in zc) (ho : (-2147483648 ≤ zf + zk ∧ zf + zk ≤ 2147483647)) (kon : ∀ h1, me_W [] h h1 → ∃ Q1, me_E (d + 5) 20 0 (mi_entry 2 [.inr (.inr 52), .inl (zf + zk)]) [] h1 Q1 ∧ ∀ w h2, (∀ x, w = some x → mi_ok x) → Q1 w h2 → me_E (d + 6) 26 48 [some (.inr (.inr 52)), some (.inr (.inr 5)), some (.inl (zf)), some (.inl (zt)), some (.inl (zm)), some (.inl (zk))] (mi_back w [.inl (zc)]) h2 Q) : me_E (d + 6) 26 40 [some (.inr (.inr 52)), some (.inr (.inr 5)), some (.inl (zf)), some (.inl (zt)), some (.inl (zm)), some (.inl (zk))] [.inl (zc)] h Q := mf_seg (mp_h5E_0 h d zf zt zm zk zc) (mi_tab_h5E_0) hS (mi_okL_c (trivial) (mi_okL_c (trivial) (mi_okL_c (ok_zf) (mi_okL_c (ok_zt) (mi_okL_c (ok_zm) (mi_okL_c (ok_zk) (mi_okL_e))))))) (mi_okS_cons (ok_zc) (mi_okS_e)) (mi_al (ho) (mi_al_e)) (fun h1 W _ hst => let ⟨_, k1, k2⟩ := kon h1 W; mf_call (M := (6, 4, sb_26)) (M' := (2, 5, sb_20)) rfl rfl rfl rfl (Nat.le_of_ble_eq_true rfl) (Nat.le_of_ble_eq_true rfl) W.1 k1 k2)
set_option maxRecDepth 20000 in
theorem mt_h5E {h : sm_H} {d : Nat} {Q : Option mi_V → sm_H → Prop} {zf zt zm zk zc : Int} (hS : ab_Sh sx_sk h) (ok_zf : mi_in zf) (ok_zt : mi_in zt) (ok_zm : mi_in zm) (ok_zk : mi_in zk) (ok_zc : mi_in zc) (k0 : ((-2147483648 ≤ zf + zk ∧ zf + zk ≤ 2147483647)) ∧ (∀ h1, ab_Sh sx_sk h1 → ab_Fr [] h h1 → ∃ Q1, me_E (d + 5) 20 0 (mi_entry 2 [.inr (.inr 52), .inl (zf + zk)]) [] h1 Q1 ∧ ∀ w h2, (∀ x, w = some x → mi_ok x) → Q1 w h2 → me_E (d + 6) 26 48 [some (.inr (.inr 52)), some (.inr (.inr 5)), some (.inl (zf)), some (.inl (zt)), some (.inl (zm)), some (.inl (zk))] (mi_back w [.inl (zc)]) h2 Q)) : me_E (d + 6) 26 40 [some (.inr (.inr 52)), some (.inr (.inr 5)), some (.inl (zf)), some (.inl (zt)), some (.inl (zm)), some (.inl (zk))] [.inl (zc)] h Q := ms_h5E_0 hS ok_zf ok_zt ok_zm ok_zk ok_zc ((k0).1) (fun h1 W => (k0).2 h1 W.1 (W.2.2.2.2.2 _ rfl))
set_option maxRecDepth 20000 in
theorem mp_h5F_0 (h : sm_H) (d : Nat) (zf zt zm zk zz zc : Int) : mj_path [(26, (6, 4, sb_26))] sx_sk h 5 [1] (d + 6, 26, 48, [some (.inr (.inr 52)), some (.inr (.inr 5)), some (.inl (zf)), some (.inl (zt)), some (.inl (zm)), some (.inl (zk))], [.inl (zz), .inl (zc)], [], []) = some ((d + 6, 26, 20, [some (.inr (.inr 52)), some (.inr (.inr 5)), some (.inl (zf)), some (.inl (zt)), some (.inl ((0 : Int))), some (.inl (zk + 1))], [], [], []), [zc ≠ zz, -2147483648 ≤ zk + 1 ∧ zk + 1 ≤ 2147483647]) := rfl
theorem mi_tab_h5F_0 : ∀ e ∈ ([(26, (6, 4, sb_26))] : mi_T), sc_P e.1 = some e.2 := mi_tb mi_P26 (mi_tb_e)
set_option maxRecDepth 20000 in
theorem ms_h5F_0 {h : sm_H} {d : Nat} {Q : Option mi_V → sm_H → Prop} {zf zt zm zk zz zc : Int} (hS : ab_Sh sx_sk h) (ok_zf : mi_in zf) (ok_zt : mi_in zt) (ok_zm : mi_in zm) (ok_zk : mi_in zk) (ok_zz : mi_in zz) (ok_zc : mi_in zc) (ho : (zc ≠ zz) ∧ (-2147483648 ≤ zk + 1 ∧ zk + 1 ≤ 2147483647)) (kon : ∀ h1, me_W [] h h1 → me_E (d + 6) 26 20 [some (.inr (.inr 52)), some (.inr (.inr 5)), some (.inl (zf)), some (.inl (zt)), some (.inl ((0 : Int))), some (.inl (zk + 1))] [] h1 Q) : me_E (d + 6) 26 48 [some (.inr (.inr 52)), some (.inr (.inr 5)), some (.inl (zf)), some (.inl (zt)), some (.inl (zm)), some (.inl (zk))] [.inl (zz), .inl (zc)] h Q := mf_seg (mp_h5F_0 h d zf zt zm zk zz zc) (mi_tab_h5F_0) hS (mi_okL_c (trivial) (mi_okL_c (trivial) (mi_okL_c (ok_zf) (mi_okL_c (ok_zt) (mi_okL_c (ok_zm) (mi_okL_c (ok_zk) (mi_okL_e))))))) (mi_okS_cons (ok_zz) (mi_okS_cons (ok_zc) (mi_okS_e))) (mi_al (ho.1) (mi_al (ho.2) (mi_al_e))) (fun h1 W _ hst => kon h1 W)
set_option maxRecDepth 20000 in
theorem mp_h5F_1 (h : sm_H) (d : Nat) (zf zt zm zk zz zc : Int) : mj_path [(26, (6, 4, sb_26))] sx_sk h 6 [0] (d + 6, 26, 48, [some (.inr (.inr 52)), some (.inr (.inr 5)), some (.inl (zf)), some (.inl (zt)), some (.inl (zm)), some (.inl (zk))], [.inl (zz), .inl (zc)], [], []) = some ((d + 6, 26, 20, [some (.inr (.inr 52)), some (.inr (.inr 5)), some (.inl (zf)), some (.inl (zt)), some (.inl ((1 : Int))), some (.inl (zk + 1))], [], [], []), [zc = zz, -2147483648 ≤ zk + 1 ∧ zk + 1 ≤ 2147483647]) := rfl
theorem mi_tab_h5F_1 : ∀ e ∈ ([(26, (6, 4, sb_26))] : mi_T), sc_P e.1 = some e.2 := mi_tb mi_P26 (mi_tb_e)
set_option maxRecDepth 20000 in
theorem ms_h5F_1 {h : sm_H} {d : Nat} {Q : Option mi_V → sm_H → Prop} {zf zt zm zk zz zc : Int} (hS : ab_Sh sx_sk h) (ok_zf : mi_in zf) (ok_zt : mi_in zt) (ok_zm : mi_in zm) (ok_zk : mi_in zk) (ok_zz : mi_in zz) (ok_zc : mi_in zc) (ho : (zc = zz) ∧ (-2147483648 ≤ zk + 1 ∧ zk + 1 ≤ 2147483647)) (kon : ∀ h1, me_W [] h h1 → me_E (d + 6) 26 20 [some (.inr (.inr 52)), some (.inr (.inr 5)), some (.inl (zf)), some (.inl (zt)), some (.inl ((1 : Int))), some (.inl (zk + 1))] [] h1 Q) : me_E (d + 6) 26 48 [some (.inr (.inr 52)), some (.inr (.inr 5)), some (.inl (zf)), some (.inl (zt)), some (.inl (zm)), some (.inl (zk))] [.inl (zz), .inl (zc)] h Q := mf_seg (mp_h5F_1 h d zf zt zm zk zz zc) (mi_tab_h5F_1) hS (mi_okL_c (trivial) (mi_okL_c (trivial) (mi_okL_c (ok_zf) (mi_okL_c (ok_zt) (mi_okL_c (ok_zm) (mi_okL_c (ok_zk) (mi_okL_e))))))) (mi_okS_cons (ok_zz) (mi_okS_cons (ok_zc) (mi_okS_e))) (mi_al (ho.1) (mi_al (ho.2) (mi_al_e))) (fun h1 W _ hst => kon h1 W)
set_option maxRecDepth 20000 in
theorem mt_h5F {h : sm_H} {d : Nat} {Q : Option mi_V → sm_H → Prop} {zf zt zm zk zz zc : Int} (hS : ab_Sh sx_sk h) (ok_zf : mi_in zf) (ok_zt : mi_in zt) (ok_zm : mi_in zm) (ok_zk : mi_in zk) (ok_zz : mi_in zz) (ok_zc : mi_in zc) (k0 : (zc ≠ zz) → ((-2147483648 ≤ zk + 1 ∧ zk + 1 ≤ 2147483647)) ∧ (∀ h1, ab_Sh sx_sk h1 → ab_Fr [] h h1 → me_E (d + 6) 26 20 [some (.inr (.inr 52)), some (.inr (.inr 5)), some (.inl (zf)), some (.inl (zt)), some (.inl ((0 : Int))), some (.inl (zk + 1))] [] h1 Q)) (k1 : (zc = zz) → ((-2147483648 ≤ zk + 1 ∧ zk + 1 ≤ 2147483647)) ∧ (∀ h1, ab_Sh sx_sk h1 → ab_Fr [] h h1 → me_E (d + 6) 26 20 [some (.inr (.inr 52)), some (.inr (.inr 5)), some (.inl (zf)), some (.inl (zt)), some (.inl ((1 : Int))), some (.inl (zk + 1))] [] h1 Q)) : me_E (d + 6) 26 48 [some (.inr (.inr 52)), some (.inr (.inr 5)), some (.inl (zf)), some (.inl (zt)), some (.inl (zm)), some (.inl (zk))] [.inl (zz), .inl (zc)] h Q := Or.elim (mi_em .ne (zc) (zz)) (fun c0 => ms_h5F_0 hS ok_zf ok_zt ok_zm ok_zk ok_zz ok_zc ⟨c0, (k0 c0).1⟩ (fun h1 W => (k0 c0).2 h1 W.1 (W.2.2.2.2.2 _ rfl))) (fun c0 => ms_h5F_1 hS ok_zf ok_zt ok_zm ok_zk ok_zz ok_zc ⟨c0, (k1 c0).1⟩ (fun h1 W => (k1 c0).2 h1 W.1 (W.2.2.2.2.2 _ rfl)))
set_option maxRecDepth 20000 in
theorem mp_h6A_0 (h : sm_H) (d : Nat) (zf zt : Int) : mj_path [(26, (6, 4, sb_26))] sx_sk h 4 [8] (d + 6, 26, 0, [some (.inr (.inr 52)), some (.inr (.inr 6)), some (.inl (zf)), some (.inl (zt)), none, none], [], [], []) = some ((d + 6, 26, 4, [some (.inr (.inr 52)), some (.inr (.inr 6)), some (.inl (zf)), some (.inl (zt)), none, none], [.inr (.inr 6), .inl (zt - zf)], [], []), [-2147483648 ≤ zt - zf ∧ zt - zf ≤ 2147483647]) := rfl
theorem mi_tab_h6A_0 : ∀ e ∈ ([(26, (6, 4, sb_26))] : mi_T), sc_P e.1 = some e.2 := mi_tb mi_P26 (mi_tb_e)
set_option maxRecDepth 20000 in
theorem ms_h6A_0 {h : sm_H} {d : Nat} {Q : Option mi_V → sm_H → Prop} {zf zt : Int} (hS : ab_Sh sx_sk h) (ok_zf : mi_in zf) (ok_zt : mi_in zt) (ho : (-2147483648 ≤ zt - zf ∧ zt - zf ≤ 2147483647)) (kon : ∀ h1, me_W [] h h1 → ∃ Q1, me_E (d + 5) 27 0 (mi_entry 1 [.inr (.inr 6)]) [] h1 Q1 ∧ ∀ w h2, (∀ x, w = some x → mi_ok x) → Q1 w h2 → me_E (d + 6) 26 7 [some (.inr (.inr 52)), some (.inr (.inr 6)), some (.inl (zf)), some (.inl (zt)), none, none] (mi_back w [.inl (zt - zf)]) h2 Q) : me_E (d + 6) 26 0 [some (.inr (.inr 52)), some (.inr (.inr 6)), some (.inl (zf)), some (.inl (zt)), none, none] [] h Q := mf_seg (mp_h6A_0 h d zf zt) (mi_tab_h6A_0) hS (mi_okL_c (trivial) (mi_okL_c (trivial) (mi_okL_c (ok_zf) (mi_okL_c (ok_zt) (mi_okL_n (mi_okL_n (mi_okL_e))))))) (mi_okS_e) (mi_al (ho) (mi_al_e)) (fun h1 W _ hst => let ⟨_, k1, k2⟩ := kon h1 W; mf_call (M := (6, 4, sb_26)) (M' := (1, 1, sb_27)) rfl rfl rfl rfl (Nat.le_of_ble_eq_true rfl) (Nat.le_of_ble_eq_true rfl) W.1 k1 k2)
set_option maxRecDepth 20000 in
theorem mt_h6A {h : sm_H} {d : Nat} {Q : Option mi_V → sm_H → Prop} {zf zt : Int} (hS : ab_Sh sx_sk h) (ok_zf : mi_in zf) (ok_zt : mi_in zt) (k0 : ((-2147483648 ≤ zt - zf ∧ zt - zf ≤ 2147483647)) ∧ (∀ h1, ab_Sh sx_sk h1 → ab_Fr [] h h1 → ∃ Q1, me_E (d + 5) 27 0 (mi_entry 1 [.inr (.inr 6)]) [] h1 Q1 ∧ ∀ w h2, (∀ x, w = some x → mi_ok x) → Q1 w h2 → me_E (d + 6) 26 7 [some (.inr (.inr 52)), some (.inr (.inr 6)), some (.inl (zf)), some (.inl (zt)), none, none] (mi_back w [.inl (zt - zf)]) h2 Q)) : me_E (d + 6) 26 0 [some (.inr (.inr 52)), some (.inr (.inr 6)), some (.inl (zf)), some (.inl (zt)), none, none] [] h Q := ms_h6A_0 hS ok_zf ok_zt ((k0).1) (fun h1 W => (k0).2 h1 W.1 (W.2.2.2.2.2 _ rfl))
set_option maxRecDepth 20000 in
theorem mp_h6B_0 (h : sm_H) (d : Nat) (zf zt zl zs : Int) : mj_path [(26, (6, 4, sb_26))] sx_sk h 5 [1] (d + 6, 26, 7, [some (.inr (.inr 52)), some (.inr (.inr 6)), some (.inl (zf)), some (.inl (zt)), none, none], [.inl (zl), .inl (zs)], [], []) = some ((d + 6, 26, 20, [some (.inr (.inr 52)), some (.inr (.inr 6)), some (.inl (zf)), some (.inl (zt)), some (.inl ((0 : Int))), some (.inl ((0 : Int)))], [], [], []), [zs ≠ zl]) := rfl
theorem mi_tab_h6B_0 : ∀ e ∈ ([(26, (6, 4, sb_26))] : mi_T), sc_P e.1 = some e.2 := mi_tb mi_P26 (mi_tb_e)
set_option maxRecDepth 20000 in
theorem ms_h6B_0 {h : sm_H} {d : Nat} {Q : Option mi_V → sm_H → Prop} {zf zt zl zs : Int} (hS : ab_Sh sx_sk h) (ok_zf : mi_in zf) (ok_zt : mi_in zt) (ok_zl : mi_in zl) (ok_zs : mi_in zs) (ho : (zs ≠ zl)) (kon : ∀ h1, me_W [] h h1 → me_E (d + 6) 26 20 [some (.inr (.inr 52)), some (.inr (.inr 6)), some (.inl (zf)), some (.inl (zt)), some (.inl ((0 : Int))), some (.inl ((0 : Int)))] [] h1 Q) : me_E (d + 6) 26 7 [some (.inr (.inr 52)), some (.inr (.inr 6)), some (.inl (zf)), some (.inl (zt)), none, none] [.inl (zl), .inl (zs)] h Q := mf_seg (mp_h6B_0 h d zf zt zl zs) (mi_tab_h6B_0) hS (mi_okL_c (trivial) (mi_okL_c (trivial) (mi_okL_c (ok_zf) (mi_okL_c (ok_zt) (mi_okL_n (mi_okL_n (mi_okL_e))))))) (mi_okS_cons (ok_zl) (mi_okS_cons (ok_zs) (mi_okS_e))) (mi_al (ho) (mi_al_e)) (fun h1 W _ hst => kon h1 W)
set_option maxRecDepth 20000 in
theorem mp_h6B_1 (h : sm_H) (d : Nat) (zf zt zl zs : Int) : mj_path [(26, (6, 4, sb_26))] sx_sk h 6 [0] (d + 6, 26, 7, [some (.inr (.inr 52)), some (.inr (.inr 6)), some (.inl (zf)), some (.inl (zt)), none, none], [.inl (zl), .inl (zs)], [], []) = some ((d + 6, 26, 20, [some (.inr (.inr 52)), some (.inr (.inr 6)), some (.inl (zf)), some (.inl (zt)), some (.inl ((1 : Int))), some (.inl ((0 : Int)))], [], [], []), [zs = zl]) := rfl
theorem mi_tab_h6B_1 : ∀ e ∈ ([(26, (6, 4, sb_26))] : mi_T), sc_P e.1 = some e.2 := mi_tb mi_P26 (mi_tb_e)
set_option maxRecDepth 20000 in
theorem ms_h6B_1 {h : sm_H} {d : Nat} {Q : Option mi_V → sm_H → Prop} {zf zt zl zs : Int} (hS : ab_Sh sx_sk h) (ok_zf : mi_in zf) (ok_zt : mi_in zt) (ok_zl : mi_in zl) (ok_zs : mi_in zs) (ho : (zs = zl)) (kon : ∀ h1, me_W [] h h1 → me_E (d + 6) 26 20 [some (.inr (.inr 52)), some (.inr (.inr 6)), some (.inl (zf)), some (.inl (zt)), some (.inl ((1 : Int))), some (.inl ((0 : Int)))] [] h1 Q) : me_E (d + 6) 26 7 [some (.inr (.inr 52)), some (.inr (.inr 6)), some (.inl (zf)), some (.inl (zt)), none, none] [.inl (zl), .inl (zs)] h Q := mf_seg (mp_h6B_1 h d zf zt zl zs) (mi_tab_h6B_1) hS (mi_okL_c (trivial) (mi_okL_c (trivial) (mi_okL_c (ok_zf) (mi_okL_c (ok_zt) (mi_okL_n (mi_okL_n (mi_okL_e))))))) (mi_okS_cons (ok_zl) (mi_okS_cons (ok_zs) (mi_okS_e))) (mi_al (ho) (mi_al_e)) (fun h1 W _ hst => kon h1 W)
set_option maxRecDepth 20000 in
theorem mt_h6B {h : sm_H} {d : Nat} {Q : Option mi_V → sm_H → Prop} {zf zt zl zs : Int} (hS : ab_Sh sx_sk h) (ok_zf : mi_in zf) (ok_zt : mi_in zt) (ok_zl : mi_in zl) (ok_zs : mi_in zs) (k0 : (zs ≠ zl) → (∀ h1, ab_Sh sx_sk h1 → ab_Fr [] h h1 → me_E (d + 6) 26 20 [some (.inr (.inr 52)), some (.inr (.inr 6)), some (.inl (zf)), some (.inl (zt)), some (.inl ((0 : Int))), some (.inl ((0 : Int)))] [] h1 Q)) (k1 : (zs = zl) → (∀ h1, ab_Sh sx_sk h1 → ab_Fr [] h h1 → me_E (d + 6) 26 20 [some (.inr (.inr 52)), some (.inr (.inr 6)), some (.inl (zf)), some (.inl (zt)), some (.inl ((1 : Int))), some (.inl ((0 : Int)))] [] h1 Q)) : me_E (d + 6) 26 7 [some (.inr (.inr 52)), some (.inr (.inr 6)), some (.inl (zf)), some (.inl (zt)), none, none] [.inl (zl), .inl (zs)] h Q := Or.elim (mi_em .ne (zs) (zl)) (fun c0 => ms_h6B_0 hS ok_zf ok_zt ok_zl ok_zs (c0) (fun h1 W => (k0 c0) h1 W.1 (W.2.2.2.2.2 _ rfl))) (fun c0 => ms_h6B_1 hS ok_zf ok_zt ok_zl ok_zs (c0) (fun h1 W => (k1 c0) h1 W.1 (W.2.2.2.2.2 _ rfl)))
set_option maxRecDepth 20000 in
theorem mp_h6C_0 (h : sm_H) (d : Nat) (zf zt zm zk : Int) : mj_path [(26, (6, 4, sb_26))] sx_sk h 3 [1] (d + 6, 26, 20, [some (.inr (.inr 52)), some (.inr (.inr 6)), some (.inl (zf)), some (.inl (zt)), some (.inl (zm)), some (.inl (zk))], [], [], []) = some ((d + 6, 26, 66, [some (.inr (.inr 52)), some (.inr (.inr 6)), some (.inl (zf)), some (.inl (zt)), some (.inl (zm)), some (.inl (zk))], [.inl (zm)], [], []), [zm = ((0 : Int))]) := rfl
theorem mi_tab_h6C_0 : ∀ e ∈ ([(26, (6, 4, sb_26))] : mi_T), sc_P e.1 = some e.2 := mi_tb mi_P26 (mi_tb_e)
set_option maxRecDepth 20000 in
theorem ms_h6C_0 {h : sm_H} {d : Nat} {Q : Option mi_V → sm_H → Prop} {zf zt zm zk : Int} (hS : ab_Sh sx_sk h) (ok_zf : mi_in zf) (ok_zt : mi_in zt) (ok_zm : mi_in zm) (ok_zk : mi_in zk) (ho : (zm = ((0 : Int))) ∧ (zm = 0 ∨ zm = 1)) (kon : ∀ h1, me_W [] h h1 → Q (some (.inl (zm))) h1) : me_E (d + 6) 26 20 [some (.inr (.inr 52)), some (.inr (.inr 6)), some (.inl (zf)), some (.inl (zt)), some (.inl (zm)), some (.inl (zk))] [] h Q := mf_seg (mp_h6C_0 h d zf zt zm zk) (mi_tab_h6C_0) hS (mi_okL_c (trivial) (mi_okL_c (trivial) (mi_okL_c (ok_zf) (mi_okL_c (ok_zt) (mi_okL_c (ok_zm) (mi_okL_c (ok_zk) (mi_okL_e))))))) (mi_okS_e) (mi_al (ho.1) (mi_al_e)) (fun h1 W _ hst => mf_ret (M := (6, 4, sb_26)) rfl rfl rfl hst (mi_al (ho.2) mi_al_e) (kon h1 W))
set_option maxRecDepth 20000 in
theorem mp_h6C_1 (h : sm_H) (d : Nat) (zf zt zm zk : Int) : mj_path [(26, (6, 4, sb_26))] sx_sk h 4 [0] (d + 6, 26, 20, [some (.inr (.inr 52)), some (.inr (.inr 6)), some (.inl (zf)), some (.inl (zt)), some (.inl (zm)), some (.inl (zk))], [], [], []) = some ((d + 6, 26, 28, [some (.inr (.inr 52)), some (.inr (.inr 6)), some (.inl (zf)), some (.inl (zt)), some (.inl (zm)), some (.inl (zk))], [.inr (.inr 6), .inl (zk)], [], []), [zm ≠ ((0 : Int))]) := rfl
theorem mi_tab_h6C_1 : ∀ e ∈ ([(26, (6, 4, sb_26))] : mi_T), sc_P e.1 = some e.2 := mi_tb mi_P26 (mi_tb_e)
set_option maxRecDepth 20000 in
theorem ms_h6C_1 {h : sm_H} {d : Nat} {Q : Option mi_V → sm_H → Prop} {zf zt zm zk : Int} (hS : ab_Sh sx_sk h) (ok_zf : mi_in zf) (ok_zt : mi_in zt) (ok_zm : mi_in zm) (ok_zk : mi_in zk) (ho : (zm ≠ ((0 : Int)))) (kon : ∀ h1, me_W [] h h1 → ∃ Q1, me_E (d + 5) 27 0 (mi_entry 1 [.inr (.inr 6)]) [] h1 Q1 ∧ ∀ w h2, (∀ x, w = some x → mi_ok x) → Q1 w h2 → me_E (d + 6) 26 31 [some (.inr (.inr 52)), some (.inr (.inr 6)), some (.inl (zf)), some (.inl (zt)), some (.inl (zm)), some (.inl (zk))] (mi_back w [.inl (zk)]) h2 Q) : me_E (d + 6) 26 20 [some (.inr (.inr 52)), some (.inr (.inr 6)), some (.inl (zf)), some (.inl (zt)), some (.inl (zm)), some (.inl (zk))] [] h Q := mf_seg (mp_h6C_1 h d zf zt zm zk) (mi_tab_h6C_1) hS (mi_okL_c (trivial) (mi_okL_c (trivial) (mi_okL_c (ok_zf) (mi_okL_c (ok_zt) (mi_okL_c (ok_zm) (mi_okL_c (ok_zk) (mi_okL_e))))))) (mi_okS_e) (mi_al (ho) (mi_al_e)) (fun h1 W _ hst => let ⟨_, k1, k2⟩ := kon h1 W; mf_call (M := (6, 4, sb_26)) (M' := (1, 1, sb_27)) rfl rfl rfl rfl (Nat.le_of_ble_eq_true rfl) (Nat.le_of_ble_eq_true rfl) W.1 k1 k2)
set_option maxRecDepth 20000 in
theorem mt_h6C {h : sm_H} {d : Nat} {Q : Option mi_V → sm_H → Prop} {zf zt zm zk : Int} (hS : ab_Sh sx_sk h) (ok_zf : mi_in zf) (ok_zt : mi_in zt) (ok_zm : mi_in zm) (ok_zk : mi_in zk) (k0 : (zm = ((0 : Int))) → ((zm = 0 ∨ zm = 1)) ∧ (∀ h1, ab_Sh sx_sk h1 → ab_Fr [] h h1 → Q (some (.inl (zm))) h1)) (k1 : (zm ≠ ((0 : Int))) → (∀ h1, ab_Sh sx_sk h1 → ab_Fr [] h h1 → ∃ Q1, me_E (d + 5) 27 0 (mi_entry 1 [.inr (.inr 6)]) [] h1 Q1 ∧ ∀ w h2, (∀ x, w = some x → mi_ok x) → Q1 w h2 → me_E (d + 6) 26 31 [some (.inr (.inr 52)), some (.inr (.inr 6)), some (.inl (zf)), some (.inl (zt)), some (.inl (zm)), some (.inl (zk))] (mi_back w [.inl (zk)]) h2 Q)) : me_E (d + 6) 26 20 [some (.inr (.inr 52)), some (.inr (.inr 6)), some (.inl (zf)), some (.inl (zt)), some (.inl (zm)), some (.inl (zk))] [] h Q := Or.elim (mi_em .eq (zm) (((0 : Int)))) (fun c0 => ms_h6C_0 hS ok_zf ok_zt ok_zm ok_zk ⟨c0, (k0 c0).1⟩ (fun h1 W => (k0 c0).2 h1 W.1 (W.2.2.2.2.2 _ rfl))) (fun c0 => ms_h6C_1 hS ok_zf ok_zt ok_zm ok_zk (c0) (fun h1 W => (k1 c0) h1 W.1 (W.2.2.2.2.2 _ rfl)))
set_option maxRecDepth 20000 in
theorem mp_h6D_0 (h : sm_H) (d : Nat) (zf zt zm zk zl zy : Int) : mj_path [(26, (6, 4, sb_26))] sx_sk h 2 [1] (d + 6, 26, 31, [some (.inr (.inr 52)), some (.inr (.inr 6)), some (.inl (zf)), some (.inl (zt)), some (.inl (zm)), some (.inl (zk))], [.inl (zl), .inl (zy)], [], []) = some ((d + 6, 26, 66, [some (.inr (.inr 52)), some (.inr (.inr 6)), some (.inl (zf)), some (.inl (zt)), some (.inl (zm)), some (.inl (zk))], [.inl (zm)], [], []), [zl ≤ zy]) := rfl
theorem mi_tab_h6D_0 : ∀ e ∈ ([(26, (6, 4, sb_26))] : mi_T), sc_P e.1 = some e.2 := mi_tb mi_P26 (mi_tb_e)
set_option maxRecDepth 20000 in
theorem ms_h6D_0 {h : sm_H} {d : Nat} {Q : Option mi_V → sm_H → Prop} {zf zt zm zk zl zy : Int} (hS : ab_Sh sx_sk h) (ok_zf : mi_in zf) (ok_zt : mi_in zt) (ok_zm : mi_in zm) (ok_zk : mi_in zk) (ok_zl : mi_in zl) (ok_zy : mi_in zy) (ho : (zl ≤ zy) ∧ (zm = 0 ∨ zm = 1)) (kon : ∀ h1, me_W [] h h1 → Q (some (.inl (zm))) h1) : me_E (d + 6) 26 31 [some (.inr (.inr 52)), some (.inr (.inr 6)), some (.inl (zf)), some (.inl (zt)), some (.inl (zm)), some (.inl (zk))] [.inl (zl), .inl (zy)] h Q := mf_seg (mp_h6D_0 h d zf zt zm zk zl zy) (mi_tab_h6D_0) hS (mi_okL_c (trivial) (mi_okL_c (trivial) (mi_okL_c (ok_zf) (mi_okL_c (ok_zt) (mi_okL_c (ok_zm) (mi_okL_c (ok_zk) (mi_okL_e))))))) (mi_okS_cons (ok_zl) (mi_okS_cons (ok_zy) (mi_okS_e))) (mi_al (ho.1) (mi_al_e)) (fun h1 W _ hst => mf_ret (M := (6, 4, sb_26)) rfl rfl rfl hst (mi_al (ho.2) mi_al_e) (kon h1 W))
set_option maxRecDepth 20000 in
theorem mp_h6D_1 (h : sm_H) (d : Nat) (zf zt zm zk zl zy : Int) : mj_path [(26, (6, 4, sb_26))] sx_sk h 3 [0] (d + 6, 26, 31, [some (.inr (.inr 52)), some (.inr (.inr 6)), some (.inl (zf)), some (.inl (zt)), some (.inl (zm)), some (.inl (zk))], [.inl (zl), .inl (zy)], [], []) = some ((d + 6, 26, 37, [some (.inr (.inr 52)), some (.inr (.inr 6)), some (.inl (zf)), some (.inl (zt)), some (.inl (zm)), some (.inl (zk))], [.inl (zk), .inr (.inr 6)], [], []), [zy < zl]) := rfl
theorem mi_tab_h6D_1 : ∀ e ∈ ([(26, (6, 4, sb_26))] : mi_T), sc_P e.1 = some e.2 := mi_tb mi_P26 (mi_tb_e)
set_option maxRecDepth 20000 in
theorem ms_h6D_1 {h : sm_H} {d : Nat} {Q : Option mi_V → sm_H → Prop} {zf zt zm zk zl zy : Int} (hS : ab_Sh sx_sk h) (ok_zf : mi_in zf) (ok_zt : mi_in zt) (ok_zm : mi_in zm) (ok_zk : mi_in zk) (ok_zl : mi_in zl) (ok_zy : mi_in zy) (ho : (zy < zl)) (kon : ∀ h1, me_W [] h h1 → ∃ Q1, me_E (d + 5) 29 0 (mi_entry 2 [.inr (.inr 6), .inl (zk)]) [] h1 Q1 ∧ ∀ w h2, (∀ x, w = some x → mi_ok x) → Q1 w h2 → me_E (d + 6) 26 40 [some (.inr (.inr 52)), some (.inr (.inr 6)), some (.inl (zf)), some (.inl (zt)), some (.inl (zm)), some (.inl (zk))] (mi_back w []) h2 Q) : me_E (d + 6) 26 31 [some (.inr (.inr 52)), some (.inr (.inr 6)), some (.inl (zf)), some (.inl (zt)), some (.inl (zm)), some (.inl (zk))] [.inl (zl), .inl (zy)] h Q := mf_seg (mp_h6D_1 h d zf zt zm zk zl zy) (mi_tab_h6D_1) hS (mi_okL_c (trivial) (mi_okL_c (trivial) (mi_okL_c (ok_zf) (mi_okL_c (ok_zt) (mi_okL_c (ok_zm) (mi_okL_c (ok_zk) (mi_okL_e))))))) (mi_okS_cons (ok_zl) (mi_okS_cons (ok_zy) (mi_okS_e))) (mi_al (ho) (mi_al_e)) (fun h1 W _ hst => let ⟨_, k1, k2⟩ := kon h1 W; mf_call (M := (6, 4, sb_26)) (M' := (2, 5, sb_29)) rfl rfl rfl rfl (Nat.le_of_ble_eq_true rfl) (Nat.le_of_ble_eq_true rfl) W.1 k1 k2)
set_option maxRecDepth 20000 in
theorem mt_h6D {h : sm_H} {d : Nat} {Q : Option mi_V → sm_H → Prop} {zf zt zm zk zl zy : Int} (hS : ab_Sh sx_sk h) (ok_zf : mi_in zf) (ok_zt : mi_in zt) (ok_zm : mi_in zm) (ok_zk : mi_in zk) (ok_zl : mi_in zl) (ok_zy : mi_in zy) (k0 : (zl ≤ zy) → ((zm = 0 ∨ zm = 1)) ∧ (∀ h1, ab_Sh sx_sk h1 → ab_Fr [] h h1 → Q (some (.inl (zm))) h1)) (k1 : (zy < zl) → (∀ h1, ab_Sh sx_sk h1 → ab_Fr [] h h1 → ∃ Q1, me_E (d + 5) 29 0 (mi_entry 2 [.inr (.inr 6), .inl (zk)]) [] h1 Q1 ∧ ∀ w h2, (∀ x, w = some x → mi_ok x) → Q1 w h2 → me_E (d + 6) 26 40 [some (.inr (.inr 52)), some (.inr (.inr 6)), some (.inl (zf)), some (.inl (zt)), some (.inl (zm)), some (.inl (zk))] (mi_back w []) h2 Q)) : me_E (d + 6) 26 31 [some (.inr (.inr 52)), some (.inr (.inr 6)), some (.inl (zf)), some (.inl (zt)), some (.inl (zm)), some (.inl (zk))] [.inl (zl), .inl (zy)] h Q := Or.elim (mi_em .ge (zy) (zl)) (fun c0 => ms_h6D_0 hS ok_zf ok_zt ok_zm ok_zk ok_zl ok_zy ⟨c0, (k0 c0).1⟩ (fun h1 W => (k0 c0).2 h1 W.1 (W.2.2.2.2.2 _ rfl))) (fun c0 => ms_h6D_1 hS ok_zf ok_zt ok_zm ok_zk ok_zl ok_zy (c0) (fun h1 W => (k1 c0) h1 W.1 (W.2.2.2.2.2 _ rfl)))
set_option maxRecDepth 20000 in
theorem mp_h6E_0 (h : sm_H) (d : Nat) (zf zt zm zk zc : Int) : mj_path [(26, (6, 4, sb_26))] sx_sk h 4 [8] (d + 6, 26, 40, [some (.inr (.inr 52)), some (.inr (.inr 6)), some (.inl (zf)), some (.inl (zt)), some (.inl (zm)), some (.inl (zk))], [.inl (zc)], [], []) = some ((d + 6, 26, 45, [some (.inr (.inr 52)), some (.inr (.inr 6)), some (.inl (zf)), some (.inl (zt)), some (.inl (zm)), some (.inl (zk))], [.inl (zf + zk), .inr (.inr 52), .inl (zc)], [], []), [-2147483648 ≤ zf + zk ∧ zf + zk ≤ 2147483647]) := rfl
theorem mi_tab_h6E_0 : ∀ e ∈ ([(26, (6, 4, sb_26))] : mi_T), sc_P e.1 = some e.2 := mi_tb mi_P26 (mi_tb_e)
set_option maxRecDepth 20000 in
theorem ms_h6E_0 {h : sm_H} {d : Nat} {Q : Option mi_V → sm_H → Prop} {zf zt zm zk zc : Int} (hS : ab_Sh sx_sk h) (ok_zf : mi_in zf) (ok_zt : mi_in zt) (ok_zm : mi_in zm) (ok_zk : mi_in zk) (ok_zc : mi_in zc) (ho : (-2147483648 ≤ zf + zk ∧ zf + zk ≤ 2147483647)) (kon : ∀ h1, me_W [] h h1 → ∃ Q1, me_E (d + 5) 20 0 (mi_entry 2 [.inr (.inr 52), .inl (zf + zk)]) [] h1 Q1 ∧ ∀ w h2, (∀ x, w = some x → mi_ok x) → Q1 w h2 → me_E (d + 6) 26 48 [some (.inr (.inr 52)), some (.inr (.inr 6)), some (.inl (zf)), some (.inl (zt)), some (.inl (zm)), some (.inl (zk))] (mi_back w [.inl (zc)]) h2 Q) : me_E (d + 6) 26 40 [some (.inr (.inr 52)), some (.inr (.inr 6)), some (.inl (zf)), some (.inl (zt)), some (.inl (zm)), some (.inl (zk))] [.inl (zc)] h Q := mf_seg (mp_h6E_0 h d zf zt zm zk zc) (mi_tab_h6E_0) hS (mi_okL_c (trivial) (mi_okL_c (trivial) (mi_okL_c (ok_zf) (mi_okL_c (ok_zt) (mi_okL_c (ok_zm) (mi_okL_c (ok_zk) (mi_okL_e))))))) (mi_okS_cons (ok_zc) (mi_okS_e)) (mi_al (ho) (mi_al_e)) (fun h1 W _ hst => let ⟨_, k1, k2⟩ := kon h1 W; mf_call (M := (6, 4, sb_26)) (M' := (2, 5, sb_20)) rfl rfl rfl rfl (Nat.le_of_ble_eq_true rfl) (Nat.le_of_ble_eq_true rfl) W.1 k1 k2)
set_option maxRecDepth 20000 in
theorem mt_h6E {h : sm_H} {d : Nat} {Q : Option mi_V → sm_H → Prop} {zf zt zm zk zc : Int} (hS : ab_Sh sx_sk h) (ok_zf : mi_in zf) (ok_zt : mi_in zt) (ok_zm : mi_in zm) (ok_zk : mi_in zk) (ok_zc : mi_in zc) (k0 : ((-2147483648 ≤ zf + zk ∧ zf + zk ≤ 2147483647)) ∧ (∀ h1, ab_Sh sx_sk h1 → ab_Fr [] h h1 → ∃ Q1, me_E (d + 5) 20 0 (mi_entry 2 [.inr (.inr 52), .inl (zf + zk)]) [] h1 Q1 ∧ ∀ w h2, (∀ x, w = some x → mi_ok x) → Q1 w h2 → me_E (d + 6) 26 48 [some (.inr (.inr 52)), some (.inr (.inr 6)), some (.inl (zf)), some (.inl (zt)), some (.inl (zm)), some (.inl (zk))] (mi_back w [.inl (zc)]) h2 Q)) : me_E (d + 6) 26 40 [some (.inr (.inr 52)), some (.inr (.inr 6)), some (.inl (zf)), some (.inl (zt)), some (.inl (zm)), some (.inl (zk))] [.inl (zc)] h Q := ms_h6E_0 hS ok_zf ok_zt ok_zm ok_zk ok_zc ((k0).1) (fun h1 W => (k0).2 h1 W.1 (W.2.2.2.2.2 _ rfl))
set_option maxRecDepth 20000 in
theorem mp_h6F_0 (h : sm_H) (d : Nat) (zf zt zm zk zz zc : Int) : mj_path [(26, (6, 4, sb_26))] sx_sk h 5 [1] (d + 6, 26, 48, [some (.inr (.inr 52)), some (.inr (.inr 6)), some (.inl (zf)), some (.inl (zt)), some (.inl (zm)), some (.inl (zk))], [.inl (zz), .inl (zc)], [], []) = some ((d + 6, 26, 20, [some (.inr (.inr 52)), some (.inr (.inr 6)), some (.inl (zf)), some (.inl (zt)), some (.inl ((0 : Int))), some (.inl (zk + 1))], [], [], []), [zc ≠ zz, -2147483648 ≤ zk + 1 ∧ zk + 1 ≤ 2147483647]) := rfl
theorem mi_tab_h6F_0 : ∀ e ∈ ([(26, (6, 4, sb_26))] : mi_T), sc_P e.1 = some e.2 := mi_tb mi_P26 (mi_tb_e)
set_option maxRecDepth 20000 in
theorem ms_h6F_0 {h : sm_H} {d : Nat} {Q : Option mi_V → sm_H → Prop} {zf zt zm zk zz zc : Int} (hS : ab_Sh sx_sk h) (ok_zf : mi_in zf) (ok_zt : mi_in zt) (ok_zm : mi_in zm) (ok_zk : mi_in zk) (ok_zz : mi_in zz) (ok_zc : mi_in zc) (ho : (zc ≠ zz) ∧ (-2147483648 ≤ zk + 1 ∧ zk + 1 ≤ 2147483647)) (kon : ∀ h1, me_W [] h h1 → me_E (d + 6) 26 20 [some (.inr (.inr 52)), some (.inr (.inr 6)), some (.inl (zf)), some (.inl (zt)), some (.inl ((0 : Int))), some (.inl (zk + 1))] [] h1 Q) : me_E (d + 6) 26 48 [some (.inr (.inr 52)), some (.inr (.inr 6)), some (.inl (zf)), some (.inl (zt)), some (.inl (zm)), some (.inl (zk))] [.inl (zz), .inl (zc)] h Q := mf_seg (mp_h6F_0 h d zf zt zm zk zz zc) (mi_tab_h6F_0) hS (mi_okL_c (trivial) (mi_okL_c (trivial) (mi_okL_c (ok_zf) (mi_okL_c (ok_zt) (mi_okL_c (ok_zm) (mi_okL_c (ok_zk) (mi_okL_e))))))) (mi_okS_cons (ok_zz) (mi_okS_cons (ok_zc) (mi_okS_e))) (mi_al (ho.1) (mi_al (ho.2) (mi_al_e))) (fun h1 W _ hst => kon h1 W)
set_option maxRecDepth 20000 in
theorem mp_h6F_1 (h : sm_H) (d : Nat) (zf zt zm zk zz zc : Int) : mj_path [(26, (6, 4, sb_26))] sx_sk h 6 [0] (d + 6, 26, 48, [some (.inr (.inr 52)), some (.inr (.inr 6)), some (.inl (zf)), some (.inl (zt)), some (.inl (zm)), some (.inl (zk))], [.inl (zz), .inl (zc)], [], []) = some ((d + 6, 26, 20, [some (.inr (.inr 52)), some (.inr (.inr 6)), some (.inl (zf)), some (.inl (zt)), some (.inl ((1 : Int))), some (.inl (zk + 1))], [], [], []), [zc = zz, -2147483648 ≤ zk + 1 ∧ zk + 1 ≤ 2147483647]) := rfl
theorem mi_tab_h6F_1 : ∀ e ∈ ([(26, (6, 4, sb_26))] : mi_T), sc_P e.1 = some e.2 := mi_tb mi_P26 (mi_tb_e)
set_option maxRecDepth 20000 in
theorem ms_h6F_1 {h : sm_H} {d : Nat} {Q : Option mi_V → sm_H → Prop} {zf zt zm zk zz zc : Int} (hS : ab_Sh sx_sk h) (ok_zf : mi_in zf) (ok_zt : mi_in zt) (ok_zm : mi_in zm) (ok_zk : mi_in zk) (ok_zz : mi_in zz) (ok_zc : mi_in zc) (ho : (zc = zz) ∧ (-2147483648 ≤ zk + 1 ∧ zk + 1 ≤ 2147483647)) (kon : ∀ h1, me_W [] h h1 → me_E (d + 6) 26 20 [some (.inr (.inr 52)), some (.inr (.inr 6)), some (.inl (zf)), some (.inl (zt)), some (.inl ((1 : Int))), some (.inl (zk + 1))] [] h1 Q) : me_E (d + 6) 26 48 [some (.inr (.inr 52)), some (.inr (.inr 6)), some (.inl (zf)), some (.inl (zt)), some (.inl (zm)), some (.inl (zk))] [.inl (zz), .inl (zc)] h Q := mf_seg (mp_h6F_1 h d zf zt zm zk zz zc) (mi_tab_h6F_1) hS (mi_okL_c (trivial) (mi_okL_c (trivial) (mi_okL_c (ok_zf) (mi_okL_c (ok_zt) (mi_okL_c (ok_zm) (mi_okL_c (ok_zk) (mi_okL_e))))))) (mi_okS_cons (ok_zz) (mi_okS_cons (ok_zc) (mi_okS_e))) (mi_al (ho.1) (mi_al (ho.2) (mi_al_e))) (fun h1 W _ hst => kon h1 W)
set_option maxRecDepth 20000 in
theorem mt_h6F {h : sm_H} {d : Nat} {Q : Option mi_V → sm_H → Prop} {zf zt zm zk zz zc : Int} (hS : ab_Sh sx_sk h) (ok_zf : mi_in zf) (ok_zt : mi_in zt) (ok_zm : mi_in zm) (ok_zk : mi_in zk) (ok_zz : mi_in zz) (ok_zc : mi_in zc) (k0 : (zc ≠ zz) → ((-2147483648 ≤ zk + 1 ∧ zk + 1 ≤ 2147483647)) ∧ (∀ h1, ab_Sh sx_sk h1 → ab_Fr [] h h1 → me_E (d + 6) 26 20 [some (.inr (.inr 52)), some (.inr (.inr 6)), some (.inl (zf)), some (.inl (zt)), some (.inl ((0 : Int))), some (.inl (zk + 1))] [] h1 Q)) (k1 : (zc = zz) → ((-2147483648 ≤ zk + 1 ∧ zk + 1 ≤ 2147483647)) ∧ (∀ h1, ab_Sh sx_sk h1 → ab_Fr [] h h1 → me_E (d + 6) 26 20 [some (.inr (.inr 52)), some (.inr (.inr 6)), some (.inl (zf)), some (.inl (zt)), some (.inl ((1 : Int))), some (.inl (zk + 1))] [] h1 Q)) : me_E (d + 6) 26 48 [some (.inr (.inr 52)), some (.inr (.inr 6)), some (.inl (zf)), some (.inl (zt)), some (.inl (zm)), some (.inl (zk))] [.inl (zz), .inl (zc)] h Q := Or.elim (mi_em .ne (zc) (zz)) (fun c0 => ms_h6F_0 hS ok_zf ok_zt ok_zm ok_zk ok_zz ok_zc ⟨c0, (k0 c0).1⟩ (fun h1 W => (k0 c0).2 h1 W.1 (W.2.2.2.2.2 _ rfl))) (fun c0 => ms_h6F_1 hS ok_zf ok_zt ok_zm ok_zk ok_zz ok_zc ⟨c0, (k1 c0).1⟩ (fun h1 W => (k1 c0).2 h1 W.1 (W.2.2.2.2.2 _ rfl)))
set_option maxRecDepth 20000 in
theorem mp_h7A_0 (h : sm_H) (d : Nat) (zf zt : Int) : mj_path [(26, (6, 4, sb_26))] sx_sk h 4 [8] (d + 6, 26, 0, [some (.inr (.inr 52)), some (.inr (.inr 7)), some (.inl (zf)), some (.inl (zt)), none, none], [], [], []) = some ((d + 6, 26, 4, [some (.inr (.inr 52)), some (.inr (.inr 7)), some (.inl (zf)), some (.inl (zt)), none, none], [.inr (.inr 7), .inl (zt - zf)], [], []), [-2147483648 ≤ zt - zf ∧ zt - zf ≤ 2147483647]) := rfl
theorem mi_tab_h7A_0 : ∀ e ∈ ([(26, (6, 4, sb_26))] : mi_T), sc_P e.1 = some e.2 := mi_tb mi_P26 (mi_tb_e)
set_option maxRecDepth 20000 in
theorem ms_h7A_0 {h : sm_H} {d : Nat} {Q : Option mi_V → sm_H → Prop} {zf zt : Int} (hS : ab_Sh sx_sk h) (ok_zf : mi_in zf) (ok_zt : mi_in zt) (ho : (-2147483648 ≤ zt - zf ∧ zt - zf ≤ 2147483647)) (kon : ∀ h1, me_W [] h h1 → ∃ Q1, me_E (d + 5) 27 0 (mi_entry 1 [.inr (.inr 7)]) [] h1 Q1 ∧ ∀ w h2, (∀ x, w = some x → mi_ok x) → Q1 w h2 → me_E (d + 6) 26 7 [some (.inr (.inr 52)), some (.inr (.inr 7)), some (.inl (zf)), some (.inl (zt)), none, none] (mi_back w [.inl (zt - zf)]) h2 Q) : me_E (d + 6) 26 0 [some (.inr (.inr 52)), some (.inr (.inr 7)), some (.inl (zf)), some (.inl (zt)), none, none] [] h Q := mf_seg (mp_h7A_0 h d zf zt) (mi_tab_h7A_0) hS (mi_okL_c (trivial) (mi_okL_c (trivial) (mi_okL_c (ok_zf) (mi_okL_c (ok_zt) (mi_okL_n (mi_okL_n (mi_okL_e))))))) (mi_okS_e) (mi_al (ho) (mi_al_e)) (fun h1 W _ hst => let ⟨_, k1, k2⟩ := kon h1 W; mf_call (M := (6, 4, sb_26)) (M' := (1, 1, sb_27)) rfl rfl rfl rfl (Nat.le_of_ble_eq_true rfl) (Nat.le_of_ble_eq_true rfl) W.1 k1 k2)
set_option maxRecDepth 20000 in
theorem mt_h7A {h : sm_H} {d : Nat} {Q : Option mi_V → sm_H → Prop} {zf zt : Int} (hS : ab_Sh sx_sk h) (ok_zf : mi_in zf) (ok_zt : mi_in zt) (k0 : ((-2147483648 ≤ zt - zf ∧ zt - zf ≤ 2147483647)) ∧ (∀ h1, ab_Sh sx_sk h1 → ab_Fr [] h h1 → ∃ Q1, me_E (d + 5) 27 0 (mi_entry 1 [.inr (.inr 7)]) [] h1 Q1 ∧ ∀ w h2, (∀ x, w = some x → mi_ok x) → Q1 w h2 → me_E (d + 6) 26 7 [some (.inr (.inr 52)), some (.inr (.inr 7)), some (.inl (zf)), some (.inl (zt)), none, none] (mi_back w [.inl (zt - zf)]) h2 Q)) : me_E (d + 6) 26 0 [some (.inr (.inr 52)), some (.inr (.inr 7)), some (.inl (zf)), some (.inl (zt)), none, none] [] h Q := ms_h7A_0 hS ok_zf ok_zt ((k0).1) (fun h1 W => (k0).2 h1 W.1 (W.2.2.2.2.2 _ rfl))
set_option maxRecDepth 20000 in
theorem mp_h7B_0 (h : sm_H) (d : Nat) (zf zt zl zs : Int) : mj_path [(26, (6, 4, sb_26))] sx_sk h 5 [1] (d + 6, 26, 7, [some (.inr (.inr 52)), some (.inr (.inr 7)), some (.inl (zf)), some (.inl (zt)), none, none], [.inl (zl), .inl (zs)], [], []) = some ((d + 6, 26, 20, [some (.inr (.inr 52)), some (.inr (.inr 7)), some (.inl (zf)), some (.inl (zt)), some (.inl ((0 : Int))), some (.inl ((0 : Int)))], [], [], []), [zs ≠ zl]) := rfl
theorem mi_tab_h7B_0 : ∀ e ∈ ([(26, (6, 4, sb_26))] : mi_T), sc_P e.1 = some e.2 := mi_tb mi_P26 (mi_tb_e)
set_option maxRecDepth 20000 in
theorem ms_h7B_0 {h : sm_H} {d : Nat} {Q : Option mi_V → sm_H → Prop} {zf zt zl zs : Int} (hS : ab_Sh sx_sk h) (ok_zf : mi_in zf) (ok_zt : mi_in zt) (ok_zl : mi_in zl) (ok_zs : mi_in zs) (ho : (zs ≠ zl)) (kon : ∀ h1, me_W [] h h1 → me_E (d + 6) 26 20 [some (.inr (.inr 52)), some (.inr (.inr 7)), some (.inl (zf)), some (.inl (zt)), some (.inl ((0 : Int))), some (.inl ((0 : Int)))] [] h1 Q) : me_E (d + 6) 26 7 [some (.inr (.inr 52)), some (.inr (.inr 7)), some (.inl (zf)), some (.inl (zt)), none, none] [.inl (zl), .inl (zs)] h Q := mf_seg (mp_h7B_0 h d zf zt zl zs) (mi_tab_h7B_0) hS (mi_okL_c (trivial) (mi_okL_c (trivial) (mi_okL_c (ok_zf) (mi_okL_c (ok_zt) (mi_okL_n (mi_okL_n (mi_okL_e))))))) (mi_okS_cons (ok_zl) (mi_okS_cons (ok_zs) (mi_okS_e))) (mi_al (ho) (mi_al_e)) (fun h1 W _ hst => kon h1 W)
set_option maxRecDepth 20000 in
theorem mp_h7B_1 (h : sm_H) (d : Nat) (zf zt zl zs : Int) : mj_path [(26, (6, 4, sb_26))] sx_sk h 6 [0] (d + 6, 26, 7, [some (.inr (.inr 52)), some (.inr (.inr 7)), some (.inl (zf)), some (.inl (zt)), none, none], [.inl (zl), .inl (zs)], [], []) = some ((d + 6, 26, 20, [some (.inr (.inr 52)), some (.inr (.inr 7)), some (.inl (zf)), some (.inl (zt)), some (.inl ((1 : Int))), some (.inl ((0 : Int)))], [], [], []), [zs = zl]) := rfl
theorem mi_tab_h7B_1 : ∀ e ∈ ([(26, (6, 4, sb_26))] : mi_T), sc_P e.1 = some e.2 := mi_tb mi_P26 (mi_tb_e)
set_option maxRecDepth 20000 in
theorem ms_h7B_1 {h : sm_H} {d : Nat} {Q : Option mi_V → sm_H → Prop} {zf zt zl zs : Int} (hS : ab_Sh sx_sk h) (ok_zf : mi_in zf) (ok_zt : mi_in zt) (ok_zl : mi_in zl) (ok_zs : mi_in zs) (ho : (zs = zl)) (kon : ∀ h1, me_W [] h h1 → me_E (d + 6) 26 20 [some (.inr (.inr 52)), some (.inr (.inr 7)), some (.inl (zf)), some (.inl (zt)), some (.inl ((1 : Int))), some (.inl ((0 : Int)))] [] h1 Q) : me_E (d + 6) 26 7 [some (.inr (.inr 52)), some (.inr (.inr 7)), some (.inl (zf)), some (.inl (zt)), none, none] [.inl (zl), .inl (zs)] h Q := mf_seg (mp_h7B_1 h d zf zt zl zs) (mi_tab_h7B_1) hS (mi_okL_c (trivial) (mi_okL_c (trivial) (mi_okL_c (ok_zf) (mi_okL_c (ok_zt) (mi_okL_n (mi_okL_n (mi_okL_e))))))) (mi_okS_cons (ok_zl) (mi_okS_cons (ok_zs) (mi_okS_e))) (mi_al (ho) (mi_al_e)) (fun h1 W _ hst => kon h1 W)
set_option maxRecDepth 20000 in
theorem mt_h7B {h : sm_H} {d : Nat} {Q : Option mi_V → sm_H → Prop} {zf zt zl zs : Int} (hS : ab_Sh sx_sk h) (ok_zf : mi_in zf) (ok_zt : mi_in zt) (ok_zl : mi_in zl) (ok_zs : mi_in zs) (k0 : (zs ≠ zl) → (∀ h1, ab_Sh sx_sk h1 → ab_Fr [] h h1 → me_E (d + 6) 26 20 [some (.inr (.inr 52)), some (.inr (.inr 7)), some (.inl (zf)), some (.inl (zt)), some (.inl ((0 : Int))), some (.inl ((0 : Int)))] [] h1 Q)) (k1 : (zs = zl) → (∀ h1, ab_Sh sx_sk h1 → ab_Fr [] h h1 → me_E (d + 6) 26 20 [some (.inr (.inr 52)), some (.inr (.inr 7)), some (.inl (zf)), some (.inl (zt)), some (.inl ((1 : Int))), some (.inl ((0 : Int)))] [] h1 Q)) : me_E (d + 6) 26 7 [some (.inr (.inr 52)), some (.inr (.inr 7)), some (.inl (zf)), some (.inl (zt)), none, none] [.inl (zl), .inl (zs)] h Q := Or.elim (mi_em .ne (zs) (zl)) (fun c0 => ms_h7B_0 hS ok_zf ok_zt ok_zl ok_zs (c0) (fun h1 W => (k0 c0) h1 W.1 (W.2.2.2.2.2 _ rfl))) (fun c0 => ms_h7B_1 hS ok_zf ok_zt ok_zl ok_zs (c0) (fun h1 W => (k1 c0) h1 W.1 (W.2.2.2.2.2 _ rfl)))
set_option maxRecDepth 20000 in
theorem mp_h7C_0 (h : sm_H) (d : Nat) (zf zt zm zk : Int) : mj_path [(26, (6, 4, sb_26))] sx_sk h 3 [1] (d + 6, 26, 20, [some (.inr (.inr 52)), some (.inr (.inr 7)), some (.inl (zf)), some (.inl (zt)), some (.inl (zm)), some (.inl (zk))], [], [], []) = some ((d + 6, 26, 66, [some (.inr (.inr 52)), some (.inr (.inr 7)), some (.inl (zf)), some (.inl (zt)), some (.inl (zm)), some (.inl (zk))], [.inl (zm)], [], []), [zm = ((0 : Int))]) := rfl
theorem mi_tab_h7C_0 : ∀ e ∈ ([(26, (6, 4, sb_26))] : mi_T), sc_P e.1 = some e.2 := mi_tb mi_P26 (mi_tb_e)
set_option maxRecDepth 20000 in
theorem ms_h7C_0 {h : sm_H} {d : Nat} {Q : Option mi_V → sm_H → Prop} {zf zt zm zk : Int} (hS : ab_Sh sx_sk h) (ok_zf : mi_in zf) (ok_zt : mi_in zt) (ok_zm : mi_in zm) (ok_zk : mi_in zk) (ho : (zm = ((0 : Int))) ∧ (zm = 0 ∨ zm = 1)) (kon : ∀ h1, me_W [] h h1 → Q (some (.inl (zm))) h1) : me_E (d + 6) 26 20 [some (.inr (.inr 52)), some (.inr (.inr 7)), some (.inl (zf)), some (.inl (zt)), some (.inl (zm)), some (.inl (zk))] [] h Q := mf_seg (mp_h7C_0 h d zf zt zm zk) (mi_tab_h7C_0) hS (mi_okL_c (trivial) (mi_okL_c (trivial) (mi_okL_c (ok_zf) (mi_okL_c (ok_zt) (mi_okL_c (ok_zm) (mi_okL_c (ok_zk) (mi_okL_e))))))) (mi_okS_e) (mi_al (ho.1) (mi_al_e)) (fun h1 W _ hst => mf_ret (M := (6, 4, sb_26)) rfl rfl rfl hst (mi_al (ho.2) mi_al_e) (kon h1 W))
set_option maxRecDepth 20000 in
theorem mp_h7C_1 (h : sm_H) (d : Nat) (zf zt zm zk : Int) : mj_path [(26, (6, 4, sb_26))] sx_sk h 4 [0] (d + 6, 26, 20, [some (.inr (.inr 52)), some (.inr (.inr 7)), some (.inl (zf)), some (.inl (zt)), some (.inl (zm)), some (.inl (zk))], [], [], []) = some ((d + 6, 26, 28, [some (.inr (.inr 52)), some (.inr (.inr 7)), some (.inl (zf)), some (.inl (zt)), some (.inl (zm)), some (.inl (zk))], [.inr (.inr 7), .inl (zk)], [], []), [zm ≠ ((0 : Int))]) := rfl
theorem mi_tab_h7C_1 : ∀ e ∈ ([(26, (6, 4, sb_26))] : mi_T), sc_P e.1 = some e.2 := mi_tb mi_P26 (mi_tb_e)
set_option maxRecDepth 20000 in
theorem ms_h7C_1 {h : sm_H} {d : Nat} {Q : Option mi_V → sm_H → Prop} {zf zt zm zk : Int} (hS : ab_Sh sx_sk h) (ok_zf : mi_in zf) (ok_zt : mi_in zt) (ok_zm : mi_in zm) (ok_zk : mi_in zk) (ho : (zm ≠ ((0 : Int)))) (kon : ∀ h1, me_W [] h h1 → ∃ Q1, me_E (d + 5) 27 0 (mi_entry 1 [.inr (.inr 7)]) [] h1 Q1 ∧ ∀ w h2, (∀ x, w = some x → mi_ok x) → Q1 w h2 → me_E (d + 6) 26 31 [some (.inr (.inr 52)), some (.inr (.inr 7)), some (.inl (zf)), some (.inl (zt)), some (.inl (zm)), some (.inl (zk))] (mi_back w [.inl (zk)]) h2 Q) : me_E (d + 6) 26 20 [some (.inr (.inr 52)), some (.inr (.inr 7)), some (.inl (zf)), some (.inl (zt)), some (.inl (zm)), some (.inl (zk))] [] h Q := mf_seg (mp_h7C_1 h d zf zt zm zk) (mi_tab_h7C_1) hS (mi_okL_c (trivial) (mi_okL_c (trivial) (mi_okL_c (ok_zf) (mi_okL_c (ok_zt) (mi_okL_c (ok_zm) (mi_okL_c (ok_zk) (mi_okL_e))))))) (mi_okS_e) (mi_al (ho) (mi_al_e)) (fun h1 W _ hst => let ⟨_, k1, k2⟩ := kon h1 W; mf_call (M := (6, 4, sb_26)) (M' := (1, 1, sb_27)) rfl rfl rfl rfl (Nat.le_of_ble_eq_true rfl) (Nat.le_of_ble_eq_true rfl) W.1 k1 k2)
set_option maxRecDepth 20000 in
theorem mt_h7C {h : sm_H} {d : Nat} {Q : Option mi_V → sm_H → Prop} {zf zt zm zk : Int} (hS : ab_Sh sx_sk h) (ok_zf : mi_in zf) (ok_zt : mi_in zt) (ok_zm : mi_in zm) (ok_zk : mi_in zk) (k0 : (zm = ((0 : Int))) → ((zm = 0 ∨ zm = 1)) ∧ (∀ h1, ab_Sh sx_sk h1 → ab_Fr [] h h1 → Q (some (.inl (zm))) h1)) (k1 : (zm ≠ ((0 : Int))) → (∀ h1, ab_Sh sx_sk h1 → ab_Fr [] h h1 → ∃ Q1, me_E (d + 5) 27 0 (mi_entry 1 [.inr (.inr 7)]) [] h1 Q1 ∧ ∀ w h2, (∀ x, w = some x → mi_ok x) → Q1 w h2 → me_E (d + 6) 26 31 [some (.inr (.inr 52)), some (.inr (.inr 7)), some (.inl (zf)), some (.inl (zt)), some (.inl (zm)), some (.inl (zk))] (mi_back w [.inl (zk)]) h2 Q)) : me_E (d + 6) 26 20 [some (.inr (.inr 52)), some (.inr (.inr 7)), some (.inl (zf)), some (.inl (zt)), some (.inl (zm)), some (.inl (zk))] [] h Q := Or.elim (mi_em .eq (zm) (((0 : Int)))) (fun c0 => ms_h7C_0 hS ok_zf ok_zt ok_zm ok_zk ⟨c0, (k0 c0).1⟩ (fun h1 W => (k0 c0).2 h1 W.1 (W.2.2.2.2.2 _ rfl))) (fun c0 => ms_h7C_1 hS ok_zf ok_zt ok_zm ok_zk (c0) (fun h1 W => (k1 c0) h1 W.1 (W.2.2.2.2.2 _ rfl)))
set_option maxRecDepth 20000 in
theorem mp_h7D_0 (h : sm_H) (d : Nat) (zf zt zm zk zl zy : Int) : mj_path [(26, (6, 4, sb_26))] sx_sk h 2 [1] (d + 6, 26, 31, [some (.inr (.inr 52)), some (.inr (.inr 7)), some (.inl (zf)), some (.inl (zt)), some (.inl (zm)), some (.inl (zk))], [.inl (zl), .inl (zy)], [], []) = some ((d + 6, 26, 66, [some (.inr (.inr 52)), some (.inr (.inr 7)), some (.inl (zf)), some (.inl (zt)), some (.inl (zm)), some (.inl (zk))], [.inl (zm)], [], []), [zl ≤ zy]) := rfl
theorem mi_tab_h7D_0 : ∀ e ∈ ([(26, (6, 4, sb_26))] : mi_T), sc_P e.1 = some e.2 := mi_tb mi_P26 (mi_tb_e)
set_option maxRecDepth 20000 in
theorem ms_h7D_0 {h : sm_H} {d : Nat} {Q : Option mi_V → sm_H → Prop} {zf zt zm zk zl zy : Int} (hS : ab_Sh sx_sk h) (ok_zf : mi_in zf) (ok_zt : mi_in zt) (ok_zm : mi_in zm) (ok_zk : mi_in zk) (ok_zl : mi_in zl) (ok_zy : mi_in zy) (ho : (zl ≤ zy) ∧ (zm = 0 ∨ zm = 1)) (kon : ∀ h1, me_W [] h h1 → Q (some (.inl (zm))) h1) : me_E (d + 6) 26 31 [some (.inr (.inr 52)), some (.inr (.inr 7)), some (.inl (zf)), some (.inl (zt)), some (.inl (zm)), some (.inl (zk))] [.inl (zl), .inl (zy)] h Q := mf_seg (mp_h7D_0 h d zf zt zm zk zl zy) (mi_tab_h7D_0) hS (mi_okL_c (trivial) (mi_okL_c (trivial) (mi_okL_c (ok_zf) (mi_okL_c (ok_zt) (mi_okL_c (ok_zm) (mi_okL_c (ok_zk) (mi_okL_e))))))) (mi_okS_cons (ok_zl) (mi_okS_cons (ok_zy) (mi_okS_e))) (mi_al (ho.1) (mi_al_e)) (fun h1 W _ hst => mf_ret (M := (6, 4, sb_26)) rfl rfl rfl hst (mi_al (ho.2) mi_al_e) (kon h1 W))
set_option maxRecDepth 20000 in
theorem mp_h7D_1 (h : sm_H) (d : Nat) (zf zt zm zk zl zy : Int) : mj_path [(26, (6, 4, sb_26))] sx_sk h 3 [0] (d + 6, 26, 31, [some (.inr (.inr 52)), some (.inr (.inr 7)), some (.inl (zf)), some (.inl (zt)), some (.inl (zm)), some (.inl (zk))], [.inl (zl), .inl (zy)], [], []) = some ((d + 6, 26, 37, [some (.inr (.inr 52)), some (.inr (.inr 7)), some (.inl (zf)), some (.inl (zt)), some (.inl (zm)), some (.inl (zk))], [.inl (zk), .inr (.inr 7)], [], []), [zy < zl]) := rfl
theorem mi_tab_h7D_1 : ∀ e ∈ ([(26, (6, 4, sb_26))] : mi_T), sc_P e.1 = some e.2 := mi_tb mi_P26 (mi_tb_e)
set_option maxRecDepth 20000 in
theorem ms_h7D_1 {h : sm_H} {d : Nat} {Q : Option mi_V → sm_H → Prop} {zf zt zm zk zl zy : Int} (hS : ab_Sh sx_sk h) (ok_zf : mi_in zf) (ok_zt : mi_in zt) (ok_zm : mi_in zm) (ok_zk : mi_in zk) (ok_zl : mi_in zl) (ok_zy : mi_in zy) (ho : (zy < zl)) (kon : ∀ h1, me_W [] h h1 → ∃ Q1, me_E (d + 5) 29 0 (mi_entry 2 [.inr (.inr 7), .inl (zk)]) [] h1 Q1 ∧ ∀ w h2, (∀ x, w = some x → mi_ok x) → Q1 w h2 → me_E (d + 6) 26 40 [some (.inr (.inr 52)), some (.inr (.inr 7)), some (.inl (zf)), some (.inl (zt)), some (.inl (zm)), some (.inl (zk))] (mi_back w []) h2 Q) : me_E (d + 6) 26 31 [some (.inr (.inr 52)), some (.inr (.inr 7)), some (.inl (zf)), some (.inl (zt)), some (.inl (zm)), some (.inl (zk))] [.inl (zl), .inl (zy)] h Q := mf_seg (mp_h7D_1 h d zf zt zm zk zl zy) (mi_tab_h7D_1) hS (mi_okL_c (trivial) (mi_okL_c (trivial) (mi_okL_c (ok_zf) (mi_okL_c (ok_zt) (mi_okL_c (ok_zm) (mi_okL_c (ok_zk) (mi_okL_e))))))) (mi_okS_cons (ok_zl) (mi_okS_cons (ok_zy) (mi_okS_e))) (mi_al (ho) (mi_al_e)) (fun h1 W _ hst => let ⟨_, k1, k2⟩ := kon h1 W; mf_call (M := (6, 4, sb_26)) (M' := (2, 5, sb_29)) rfl rfl rfl rfl (Nat.le_of_ble_eq_true rfl) (Nat.le_of_ble_eq_true rfl) W.1 k1 k2)
set_option maxRecDepth 20000 in
theorem mt_h7D {h : sm_H} {d : Nat} {Q : Option mi_V → sm_H → Prop} {zf zt zm zk zl zy : Int} (hS : ab_Sh sx_sk h) (ok_zf : mi_in zf) (ok_zt : mi_in zt) (ok_zm : mi_in zm) (ok_zk : mi_in zk) (ok_zl : mi_in zl) (ok_zy : mi_in zy) (k0 : (zl ≤ zy) → ((zm = 0 ∨ zm = 1)) ∧ (∀ h1, ab_Sh sx_sk h1 → ab_Fr [] h h1 → Q (some (.inl (zm))) h1)) (k1 : (zy < zl) → (∀ h1, ab_Sh sx_sk h1 → ab_Fr [] h h1 → ∃ Q1, me_E (d + 5) 29 0 (mi_entry 2 [.inr (.inr 7), .inl (zk)]) [] h1 Q1 ∧ ∀ w h2, (∀ x, w = some x → mi_ok x) → Q1 w h2 → me_E (d + 6) 26 40 [some (.inr (.inr 52)), some (.inr (.inr 7)), some (.inl (zf)), some (.inl (zt)), some (.inl (zm)), some (.inl (zk))] (mi_back w []) h2 Q)) : me_E (d + 6) 26 31 [some (.inr (.inr 52)), some (.inr (.inr 7)), some (.inl (zf)), some (.inl (zt)), some (.inl (zm)), some (.inl (zk))] [.inl (zl), .inl (zy)] h Q := Or.elim (mi_em .ge (zy) (zl)) (fun c0 => ms_h7D_0 hS ok_zf ok_zt ok_zm ok_zk ok_zl ok_zy ⟨c0, (k0 c0).1⟩ (fun h1 W => (k0 c0).2 h1 W.1 (W.2.2.2.2.2 _ rfl))) (fun c0 => ms_h7D_1 hS ok_zf ok_zt ok_zm ok_zk ok_zl ok_zy (c0) (fun h1 W => (k1 c0) h1 W.1 (W.2.2.2.2.2 _ rfl)))
set_option maxRecDepth 20000 in
theorem mp_h7E_0 (h : sm_H) (d : Nat) (zf zt zm zk zc : Int) : mj_path [(26, (6, 4, sb_26))] sx_sk h 4 [8] (d + 6, 26, 40, [some (.inr (.inr 52)), some (.inr (.inr 7)), some (.inl (zf)), some (.inl (zt)), some (.inl (zm)), some (.inl (zk))], [.inl (zc)], [], []) = some ((d + 6, 26, 45, [some (.inr (.inr 52)), some (.inr (.inr 7)), some (.inl (zf)), some (.inl (zt)), some (.inl (zm)), some (.inl (zk))], [.inl (zf + zk), .inr (.inr 52), .inl (zc)], [], []), [-2147483648 ≤ zf + zk ∧ zf + zk ≤ 2147483647]) := rfl
theorem mi_tab_h7E_0 : ∀ e ∈ ([(26, (6, 4, sb_26))] : mi_T), sc_P e.1 = some e.2 := mi_tb mi_P26 (mi_tb_e)
set_option maxRecDepth 20000 in
theorem ms_h7E_0 {h : sm_H} {d : Nat} {Q : Option mi_V → sm_H → Prop} {zf zt zm zk zc : Int} (hS : ab_Sh sx_sk h) (ok_zf : mi_in zf) (ok_zt : mi_in zt) (ok_zm : mi_in zm) (ok_zk : mi_in zk) (ok_zc : mi_in zc) (ho : (-2147483648 ≤ zf + zk ∧ zf + zk ≤ 2147483647)) (kon : ∀ h1, me_W [] h h1 → ∃ Q1, me_E (d + 5) 20 0 (mi_entry 2 [.inr (.inr 52), .inl (zf + zk)]) [] h1 Q1 ∧ ∀ w h2, (∀ x, w = some x → mi_ok x) → Q1 w h2 → me_E (d + 6) 26 48 [some (.inr (.inr 52)), some (.inr (.inr 7)), some (.inl (zf)), some (.inl (zt)), some (.inl (zm)), some (.inl (zk))] (mi_back w [.inl (zc)]) h2 Q) : me_E (d + 6) 26 40 [some (.inr (.inr 52)), some (.inr (.inr 7)), some (.inl (zf)), some (.inl (zt)), some (.inl (zm)), some (.inl (zk))] [.inl (zc)] h Q := mf_seg (mp_h7E_0 h d zf zt zm zk zc) (mi_tab_h7E_0) hS (mi_okL_c (trivial) (mi_okL_c (trivial) (mi_okL_c (ok_zf) (mi_okL_c (ok_zt) (mi_okL_c (ok_zm) (mi_okL_c (ok_zk) (mi_okL_e))))))) (mi_okS_cons (ok_zc) (mi_okS_e)) (mi_al (ho) (mi_al_e)) (fun h1 W _ hst => let ⟨_, k1, k2⟩ := kon h1 W; mf_call (M := (6, 4, sb_26)) (M' := (2, 5, sb_20)) rfl rfl rfl rfl (Nat.le_of_ble_eq_true rfl) (Nat.le_of_ble_eq_true rfl) W.1 k1 k2)
set_option maxRecDepth 20000 in
theorem mt_h7E {h : sm_H} {d : Nat} {Q : Option mi_V → sm_H → Prop} {zf zt zm zk zc : Int} (hS : ab_Sh sx_sk h) (ok_zf : mi_in zf) (ok_zt : mi_in zt) (ok_zm : mi_in zm) (ok_zk : mi_in zk) (ok_zc : mi_in zc) (k0 : ((-2147483648 ≤ zf + zk ∧ zf + zk ≤ 2147483647)) ∧ (∀ h1, ab_Sh sx_sk h1 → ab_Fr [] h h1 → ∃ Q1, me_E (d + 5) 20 0 (mi_entry 2 [.inr (.inr 52), .inl (zf + zk)]) [] h1 Q1 ∧ ∀ w h2, (∀ x, w = some x → mi_ok x) → Q1 w h2 → me_E (d + 6) 26 48 [some (.inr (.inr 52)), some (.inr (.inr 7)), some (.inl (zf)), some (.inl (zt)), some (.inl (zm)), some (.inl (zk))] (mi_back w [.inl (zc)]) h2 Q)) : me_E (d + 6) 26 40 [some (.inr (.inr 52)), some (.inr (.inr 7)), some (.inl (zf)), some (.inl (zt)), some (.inl (zm)), some (.inl (zk))] [.inl (zc)] h Q := ms_h7E_0 hS ok_zf ok_zt ok_zm ok_zk ok_zc ((k0).1) (fun h1 W => (k0).2 h1 W.1 (W.2.2.2.2.2 _ rfl))
set_option maxRecDepth 20000 in
theorem mp_h7F_0 (h : sm_H) (d : Nat) (zf zt zm zk zz zc : Int) : mj_path [(26, (6, 4, sb_26))] sx_sk h 5 [1] (d + 6, 26, 48, [some (.inr (.inr 52)), some (.inr (.inr 7)), some (.inl (zf)), some (.inl (zt)), some (.inl (zm)), some (.inl (zk))], [.inl (zz), .inl (zc)], [], []) = some ((d + 6, 26, 20, [some (.inr (.inr 52)), some (.inr (.inr 7)), some (.inl (zf)), some (.inl (zt)), some (.inl ((0 : Int))), some (.inl (zk + 1))], [], [], []), [zc ≠ zz, -2147483648 ≤ zk + 1 ∧ zk + 1 ≤ 2147483647]) := rfl
theorem mi_tab_h7F_0 : ∀ e ∈ ([(26, (6, 4, sb_26))] : mi_T), sc_P e.1 = some e.2 := mi_tb mi_P26 (mi_tb_e)
set_option maxRecDepth 20000 in
theorem ms_h7F_0 {h : sm_H} {d : Nat} {Q : Option mi_V → sm_H → Prop} {zf zt zm zk zz zc : Int} (hS : ab_Sh sx_sk h) (ok_zf : mi_in zf) (ok_zt : mi_in zt) (ok_zm : mi_in zm) (ok_zk : mi_in zk) (ok_zz : mi_in zz) (ok_zc : mi_in zc) (ho : (zc ≠ zz) ∧ (-2147483648 ≤ zk + 1 ∧ zk + 1 ≤ 2147483647)) (kon : ∀ h1, me_W [] h h1 → me_E (d + 6) 26 20 [some (.inr (.inr 52)), some (.inr (.inr 7)), some (.inl (zf)), some (.inl (zt)), some (.inl ((0 : Int))), some (.inl (zk + 1))] [] h1 Q) : me_E (d + 6) 26 48 [some (.inr (.inr 52)), some (.inr (.inr 7)), some (.inl (zf)), some (.inl (zt)), some (.inl (zm)), some (.inl (zk))] [.inl (zz), .inl (zc)] h Q := mf_seg (mp_h7F_0 h d zf zt zm zk zz zc) (mi_tab_h7F_0) hS (mi_okL_c (trivial) (mi_okL_c (trivial) (mi_okL_c (ok_zf) (mi_okL_c (ok_zt) (mi_okL_c (ok_zm) (mi_okL_c (ok_zk) (mi_okL_e))))))) (mi_okS_cons (ok_zz) (mi_okS_cons (ok_zc) (mi_okS_e))) (mi_al (ho.1) (mi_al (ho.2) (mi_al_e))) (fun h1 W _ hst => kon h1 W)
set_option maxRecDepth 20000 in
theorem mp_h7F_1 (h : sm_H) (d : Nat) (zf zt zm zk zz zc : Int) : mj_path [(26, (6, 4, sb_26))] sx_sk h 6 [0] (d + 6, 26, 48, [some (.inr (.inr 52)), some (.inr (.inr 7)), some (.inl (zf)), some (.inl (zt)), some (.inl (zm)), some (.inl (zk))], [.inl (zz), .inl (zc)], [], []) = some ((d + 6, 26, 20, [some (.inr (.inr 52)), some (.inr (.inr 7)), some (.inl (zf)), some (.inl (zt)), some (.inl ((1 : Int))), some (.inl (zk + 1))], [], [], []), [zc = zz, -2147483648 ≤ zk + 1 ∧ zk + 1 ≤ 2147483647]) := rfl
theorem mi_tab_h7F_1 : ∀ e ∈ ([(26, (6, 4, sb_26))] : mi_T), sc_P e.1 = some e.2 := mi_tb mi_P26 (mi_tb_e)
set_option maxRecDepth 20000 in
theorem ms_h7F_1 {h : sm_H} {d : Nat} {Q : Option mi_V → sm_H → Prop} {zf zt zm zk zz zc : Int} (hS : ab_Sh sx_sk h) (ok_zf : mi_in zf) (ok_zt : mi_in zt) (ok_zm : mi_in zm) (ok_zk : mi_in zk) (ok_zz : mi_in zz) (ok_zc : mi_in zc) (ho : (zc = zz) ∧ (-2147483648 ≤ zk + 1 ∧ zk + 1 ≤ 2147483647)) (kon : ∀ h1, me_W [] h h1 → me_E (d + 6) 26 20 [some (.inr (.inr 52)), some (.inr (.inr 7)), some (.inl (zf)), some (.inl (zt)), some (.inl ((1 : Int))), some (.inl (zk + 1))] [] h1 Q) : me_E (d + 6) 26 48 [some (.inr (.inr 52)), some (.inr (.inr 7)), some (.inl (zf)), some (.inl (zt)), some (.inl (zm)), some (.inl (zk))] [.inl (zz), .inl (zc)] h Q := mf_seg (mp_h7F_1 h d zf zt zm zk zz zc) (mi_tab_h7F_1) hS (mi_okL_c (trivial) (mi_okL_c (trivial) (mi_okL_c (ok_zf) (mi_okL_c (ok_zt) (mi_okL_c (ok_zm) (mi_okL_c (ok_zk) (mi_okL_e))))))) (mi_okS_cons (ok_zz) (mi_okS_cons (ok_zc) (mi_okS_e))) (mi_al (ho.1) (mi_al (ho.2) (mi_al_e))) (fun h1 W _ hst => kon h1 W)
set_option maxRecDepth 20000 in
theorem mt_h7F {h : sm_H} {d : Nat} {Q : Option mi_V → sm_H → Prop} {zf zt zm zk zz zc : Int} (hS : ab_Sh sx_sk h) (ok_zf : mi_in zf) (ok_zt : mi_in zt) (ok_zm : mi_in zm) (ok_zk : mi_in zk) (ok_zz : mi_in zz) (ok_zc : mi_in zc) (k0 : (zc ≠ zz) → ((-2147483648 ≤ zk + 1 ∧ zk + 1 ≤ 2147483647)) ∧ (∀ h1, ab_Sh sx_sk h1 → ab_Fr [] h h1 → me_E (d + 6) 26 20 [some (.inr (.inr 52)), some (.inr (.inr 7)), some (.inl (zf)), some (.inl (zt)), some (.inl ((0 : Int))), some (.inl (zk + 1))] [] h1 Q)) (k1 : (zc = zz) → ((-2147483648 ≤ zk + 1 ∧ zk + 1 ≤ 2147483647)) ∧ (∀ h1, ab_Sh sx_sk h1 → ab_Fr [] h h1 → me_E (d + 6) 26 20 [some (.inr (.inr 52)), some (.inr (.inr 7)), some (.inl (zf)), some (.inl (zt)), some (.inl ((1 : Int))), some (.inl (zk + 1))] [] h1 Q)) : me_E (d + 6) 26 48 [some (.inr (.inr 52)), some (.inr (.inr 7)), some (.inl (zf)), some (.inl (zt)), some (.inl (zm)), some (.inl (zk))] [.inl (zz), .inl (zc)] h Q := Or.elim (mi_em .ne (zc) (zz)) (fun c0 => ms_h7F_0 hS ok_zf ok_zt ok_zm ok_zk ok_zz ok_zc ⟨c0, (k0 c0).1⟩ (fun h1 W => (k0 c0).2 h1 W.1 (W.2.2.2.2.2 _ rfl))) (fun c0 => ms_h7F_1 hS ok_zf ok_zt ok_zm ok_zk ok_zz ok_zc ⟨c0, (k1 c0).1⟩ (fun h1 W => (k1 c0).2 h1 W.1 (W.2.2.2.2.2 _ rfl)))
/-! segments of the class: Tokens -/
set_option maxRecDepth 20000 in
theorem mp_twA_0 (h : sm_H) (d : Nat) : mj_path [(24, (1, 0, sb_24))] sx_sk h 5 [] (d + 8, 24, 0, [some (.inr (.inr 77))], [], [], []) = some ((d + 8, 24, 9, [some (.inr (.inr 77))], [.inl (mi_f h 9858), .inr (.inr 52), .inr (.inr 77)], [], []), []) := rfl
theorem mi_tab_twA_0 : ∀ e ∈ ([(24, (1, 0, sb_24))] : mi_T), sc_P e.1 = some e.2 := mi_tb mi_P24 (mi_tb_e)
set_option maxRecDepth 20000 in
theorem ms_twA_0 {h : sm_H} {d : Nat} {Q : Option mi_V → sm_H → Prop} (hS : ab_Sh sx_sk h)  (kon : ∀ h1, me_W [] h h1 → ∃ Q1, me_E (d + 7) 25 0 (mi_entry 3 [.inr (.inr 52), .inl (mi_f h 9858)]) [] h1 Q1 ∧ ∀ w h2, (∀ x, w = some x → mi_ok x) → Q1 w h2 → me_E (d + 8) 24 12 [some (.inr (.inr 77))] (mi_back w [.inr (.inr 77)]) h2 Q) : me_E (d + 8) 24 0 [some (.inr (.inr 77))] [] h Q := mf_seg (mp_twA_0 h d ) (mi_tab_twA_0) hS (mi_okL_c (trivial) (mi_okL_e)) (mi_okS_e) (mi_al_e) (fun h1 W _ hst => let ⟨_, k1, k2⟩ := kon h1 W; mf_call (M := (1, 0, sb_24)) (M' := (3, 1, sb_25)) rfl rfl rfl rfl (Nat.le_of_ble_eq_true rfl) (Nat.le_of_ble_eq_true rfl) W.1 k1 k2)
set_option maxRecDepth 20000 in
theorem mt_twA {h : sm_H} {d : Nat} {Q : Option mi_V → sm_H → Prop} (hS : ab_Sh sx_sk h)  (k0 : (∀ h1, ab_Sh sx_sk h1 → ab_Fr [] h h1 → ∃ Q1, me_E (d + 7) 25 0 (mi_entry 3 [.inr (.inr 52), .inl (mi_f h 9858)]) [] h1 Q1 ∧ ∀ w h2, (∀ x, w = some x → mi_ok x) → Q1 w h2 → me_E (d + 8) 24 12 [some (.inr (.inr 77))] (mi_back w [.inr (.inr 77)]) h2 Q)) : me_E (d + 8) 24 0 [some (.inr (.inr 77))] [] h Q := ms_twA_0 hS (fun h1 W => (k0) h1 W.1 (W.2.2.2.2.2 _ rfl))
set_option maxRecDepth 20000 in
theorem mp_twB_0 (h : sm_H) (d : Nat) (zz : Int) : mj_path [(24, (1, 0, sb_24))] sx_sk h 8 [] (d + 8, 24, 12, [some (.inr (.inr 77))], [.inl (zz), .inr (.inr 77)], [], []) = some ((d + 8, 24, 29, [some (.inr (.inr 77))], [.inl (zz), .inl (mi_f h 9858), .inr (.inr 1), .inr (.inr 52)], [.inl (9857, zz)], []), [0 ≤ zz ∧ zz ≤ 241]) := rfl
theorem mi_tab_twB_0 : ∀ e ∈ ([(24, (1, 0, sb_24))] : mi_T), sc_P e.1 = some e.2 := mi_tb mi_P24 (mi_tb_e)
set_option maxRecDepth 20000 in
theorem ms_twB_0 {h : sm_H} {d : Nat} {Q : Option mi_V → sm_H → Prop} {zz : Int} (hS : ab_Sh sx_sk h) (ok_zz : mi_in zz) (ho : (0 ≤ zz ∧ zz ≤ 241)) (kon : ∀ h1, me_W [.inl (9857, zz)] h h1 → ∃ Q1, me_E (d + 7) 26 0 (mi_entry 6 [.inr (.inr 52), .inr (.inr 1), .inl (mi_f h 9858), .inl (zz)]) [] h1 Q1 ∧ ∀ w h2, (∀ x, w = some x → mi_ok x) → Q1 w h2 → me_E (d + 8) 24 32 [some (.inr (.inr 77))] (mi_back w []) h2 Q) : me_E (d + 8) 24 12 [some (.inr (.inr 77))] [.inl (zz), .inr (.inr 77)] h Q := mf_seg (mp_twB_0 h d zz) (mi_tab_twB_0) hS (mi_okL_c (trivial) (mi_okL_e)) (mi_okS_cons (ok_zz) (mi_okS_cons (trivial) (mi_okS_e))) (mi_al (ho) (mi_al_e)) (fun h1 W _ hst => let ⟨_, k1, k2⟩ := kon h1 W; mf_call (M := (1, 0, sb_24)) (M' := (6, 4, sb_26)) rfl rfl rfl rfl (Nat.le_of_ble_eq_true rfl) (Nat.le_of_ble_eq_true rfl) W.1 k1 k2)
set_option maxRecDepth 20000 in
theorem mt_twB {h : sm_H} {d : Nat} {Q : Option mi_V → sm_H → Prop} {zz : Int} (hS : ab_Sh sx_sk h) (ok_zz : mi_in zz) (k0 : ((0 ≤ zz ∧ zz ≤ 241)) ∧ (∀ h1, ab_Sh sx_sk h1 → mi_f h1 9857 = zz → ab_Fr [(9857, 9858)] h h1 → ∃ Q1, me_E (d + 7) 26 0 (mi_entry 6 [.inr (.inr 52), .inr (.inr 1), .inl (mi_f h 9858), .inl (zz)]) [] h1 Q1 ∧ ∀ w h2, (∀ x, w = some x → mi_ok x) → Q1 w h2 → me_E (d + 8) 24 32 [some (.inr (.inr 77))] (mi_back w []) h2 Q)) : me_E (d + 8) 24 12 [some (.inr (.inr 77))] [.inl (zz), .inr (.inr 77)] h Q := ms_twB_0 hS ok_zz ((k0).1) (fun h1 W => (k0).2 h1 W.1 (W.2.1 9857) (W.2.2.2.2.2 _ rfl))
set_option maxRecDepth 20000 in
theorem mp_tw1_0 (h : sm_H) (d : Nat) (zz : Int) : mj_path [(24, (1, 0, sb_24))] sx_sk h 8 [1] (d + 8, 24, 32, [some (.inr (.inr 77))], [.inl (zz)], [], []) = some ((d + 8, 24, 57, [some (.inr (.inr 77))], [.inl (mi_f h 9857), .inl (mi_f h 9858), .inr (.inr 2), .inr (.inr 52)], [], []), [zz = ((0 : Int))]) := rfl
theorem mi_tab_tw1_0 : ∀ e ∈ ([(24, (1, 0, sb_24))] : mi_T), sc_P e.1 = some e.2 := mi_tb mi_P24 (mi_tb_e)
set_option maxRecDepth 20000 in
theorem ms_tw1_0 {h : sm_H} {d : Nat} {Q : Option mi_V → sm_H → Prop} {zz : Int} (hS : ab_Sh sx_sk h) (ok_zz : mi_in zz) (ho : (zz = ((0 : Int)))) (kon : ∀ h1, me_W [] h h1 → ∃ Q1, me_E (d + 7) 26 0 (mi_entry 6 [.inr (.inr 52), .inr (.inr 2), .inl (mi_f h 9858), .inl (mi_f h 9857)]) [] h1 Q1 ∧ ∀ w h2, (∀ x, w = some x → mi_ok x) → Q1 w h2 → me_E (d + 8) 24 60 [some (.inr (.inr 77))] (mi_back w []) h2 Q) : me_E (d + 8) 24 32 [some (.inr (.inr 77))] [.inl (zz)] h Q := mf_seg (mp_tw1_0 h d zz) (mi_tab_tw1_0) hS (mi_okL_c (trivial) (mi_okL_e)) (mi_okS_cons (ok_zz) (mi_okS_e)) (mi_al (ho) (mi_al_e)) (fun h1 W _ hst => let ⟨_, k1, k2⟩ := kon h1 W; mf_call (M := (1, 0, sb_24)) (M' := (6, 4, sb_26)) rfl rfl rfl rfl (Nat.le_of_ble_eq_true rfl) (Nat.le_of_ble_eq_true rfl) W.1 k1 k2)
set_option maxRecDepth 20000 in
theorem mp_tw1_1 (h : sm_H) (d : Nat) (zz : Int) : mj_path [(24, (1, 0, sb_24))] sx_sk h 5 [0] (d + 8, 24, 32, [some (.inr (.inr 77))], [.inl (zz)], [], []) = some ((d + 8, 24, 219, [some (.inr (.inr 77))], [], [.inl (9859, (1 : Int))], []), [zz ≠ ((0 : Int))]) := rfl
theorem mi_tab_tw1_1 : ∀ e ∈ ([(24, (1, 0, sb_24))] : mi_T), sc_P e.1 = some e.2 := mi_tb mi_P24 (mi_tb_e)
set_option maxRecDepth 20000 in
theorem ms_tw1_1 {h : sm_H} {d : Nat} {Q : Option mi_V → sm_H → Prop} {zz : Int} (hS : ab_Sh sx_sk h) (ok_zz : mi_in zz) (ho : (zz ≠ ((0 : Int)))) (kon : ∀ h1, me_W [.inl (9859, (1 : Int))] h h1 → Q none h1) : me_E (d + 8) 24 32 [some (.inr (.inr 77))] [.inl (zz)] h Q := mf_seg (mp_tw1_1 h d zz) (mi_tab_tw1_1) hS (mi_okL_c (trivial) (mi_okL_e)) (mi_okS_cons (ok_zz) (mi_okS_e)) (mi_al (ho) (mi_al_e)) (fun h1 W _ hst => mf_ret (M := (1, 0, sb_24)) rfl rfl rfl hst (mi_al_e) (kon h1 W))
set_option maxRecDepth 20000 in
theorem mt_tw1 {h : sm_H} {d : Nat} {Q : Option mi_V → sm_H → Prop} {zz : Int} (hS : ab_Sh sx_sk h) (ok_zz : mi_in zz) (k0 : (zz = ((0 : Int))) → (∀ h1, ab_Sh sx_sk h1 → ab_Fr [] h h1 → ∃ Q1, me_E (d + 7) 26 0 (mi_entry 6 [.inr (.inr 52), .inr (.inr 2), .inl (mi_f h 9858), .inl (mi_f h 9857)]) [] h1 Q1 ∧ ∀ w h2, (∀ x, w = some x → mi_ok x) → Q1 w h2 → me_E (d + 8) 24 60 [some (.inr (.inr 77))] (mi_back w []) h2 Q)) (k1 : (zz ≠ ((0 : Int))) → (∀ h1, ab_Sh sx_sk h1 → mi_f h1 9859 = (1 : Int) → ab_Fr [(9859, 9860)] h h1 → Q none h1)) : me_E (d + 8) 24 32 [some (.inr (.inr 77))] [.inl (zz)] h Q := Or.elim (mi_em .eq (zz) (((0 : Int)))) (fun c0 => ms_tw1_0 hS ok_zz (c0) (fun h1 W => (k0 c0) h1 W.1 (W.2.2.2.2.2 _ rfl))) (fun c0 => ms_tw1_1 hS ok_zz (c0) (fun h1 W => (k1 c0) h1 W.1 (W.2.1 9859) (W.2.2.2.2.2 _ rfl)))
set_option maxRecDepth 20000 in
theorem mp_tw2_0 (h : sm_H) (d : Nat) (zz : Int) : mj_path [(24, (1, 0, sb_24))] sx_sk h 8 [1] (d + 8, 24, 60, [some (.inr (.inr 77))], [.inl (zz)], [], []) = some ((d + 8, 24, 85, [some (.inr (.inr 77))], [.inl (mi_f h 9857), .inl (mi_f h 9858), .inr (.inr 3), .inr (.inr 52)], [], []), [zz = ((0 : Int))]) := rfl
theorem mi_tab_tw2_0 : ∀ e ∈ ([(24, (1, 0, sb_24))] : mi_T), sc_P e.1 = some e.2 := mi_tb mi_P24 (mi_tb_e)
set_option maxRecDepth 20000 in
theorem ms_tw2_0 {h : sm_H} {d : Nat} {Q : Option mi_V → sm_H → Prop} {zz : Int} (hS : ab_Sh sx_sk h) (ok_zz : mi_in zz) (ho : (zz = ((0 : Int)))) (kon : ∀ h1, me_W [] h h1 → ∃ Q1, me_E (d + 7) 26 0 (mi_entry 6 [.inr (.inr 52), .inr (.inr 3), .inl (mi_f h 9858), .inl (mi_f h 9857)]) [] h1 Q1 ∧ ∀ w h2, (∀ x, w = some x → mi_ok x) → Q1 w h2 → me_E (d + 8) 24 88 [some (.inr (.inr 77))] (mi_back w []) h2 Q) : me_E (d + 8) 24 60 [some (.inr (.inr 77))] [.inl (zz)] h Q := mf_seg (mp_tw2_0 h d zz) (mi_tab_tw2_0) hS (mi_okL_c (trivial) (mi_okL_e)) (mi_okS_cons (ok_zz) (mi_okS_e)) (mi_al (ho) (mi_al_e)) (fun h1 W _ hst => let ⟨_, k1, k2⟩ := kon h1 W; mf_call (M := (1, 0, sb_24)) (M' := (6, 4, sb_26)) rfl rfl rfl rfl (Nat.le_of_ble_eq_true rfl) (Nat.le_of_ble_eq_true rfl) W.1 k1 k2)
set_option maxRecDepth 20000 in
theorem mp_tw2_1 (h : sm_H) (d : Nat) (zz : Int) : mj_path [(24, (1, 0, sb_24))] sx_sk h 5 [0] (d + 8, 24, 60, [some (.inr (.inr 77))], [.inl (zz)], [], []) = some ((d + 8, 24, 219, [some (.inr (.inr 77))], [], [.inl (9859, (2 : Int))], []), [zz ≠ ((0 : Int))]) := rfl
theorem mi_tab_tw2_1 : ∀ e ∈ ([(24, (1, 0, sb_24))] : mi_T), sc_P e.1 = some e.2 := mi_tb mi_P24 (mi_tb_e)
set_option maxRecDepth 20000 in
theorem ms_tw2_1 {h : sm_H} {d : Nat} {Q : Option mi_V → sm_H → Prop} {zz : Int} (hS : ab_Sh sx_sk h) (ok_zz : mi_in zz) (ho : (zz ≠ ((0 : Int)))) (kon : ∀ h1, me_W [.inl (9859, (2 : Int))] h h1 → Q none h1) : me_E (d + 8) 24 60 [some (.inr (.inr 77))] [.inl (zz)] h Q := mf_seg (mp_tw2_1 h d zz) (mi_tab_tw2_1) hS (mi_okL_c (trivial) (mi_okL_e)) (mi_okS_cons (ok_zz) (mi_okS_e)) (mi_al (ho) (mi_al_e)) (fun h1 W _ hst => mf_ret (M := (1, 0, sb_24)) rfl rfl rfl hst (mi_al_e) (kon h1 W))
set_option maxRecDepth 20000 in
theorem mt_tw2 {h : sm_H} {d : Nat} {Q : Option mi_V → sm_H → Prop} {zz : Int} (hS : ab_Sh sx_sk h) (ok_zz : mi_in zz) (k0 : (zz = ((0 : Int))) → (∀ h1, ab_Sh sx_sk h1 → ab_Fr [] h h1 → ∃ Q1, me_E (d + 7) 26 0 (mi_entry 6 [.inr (.inr 52), .inr (.inr 3), .inl (mi_f h 9858), .inl (mi_f h 9857)]) [] h1 Q1 ∧ ∀ w h2, (∀ x, w = some x → mi_ok x) → Q1 w h2 → me_E (d + 8) 24 88 [some (.inr (.inr 77))] (mi_back w []) h2 Q)) (k1 : (zz ≠ ((0 : Int))) → (∀ h1, ab_Sh sx_sk h1 → mi_f h1 9859 = (2 : Int) → ab_Fr [(9859, 9860)] h h1 → Q none h1)) : me_E (d + 8) 24 60 [some (.inr (.inr 77))] [.inl (zz)] h Q := Or.elim (mi_em .eq (zz) (((0 : Int)))) (fun c0 => ms_tw2_0 hS ok_zz (c0) (fun h1 W => (k0 c0) h1 W.1 (W.2.2.2.2.2 _ rfl))) (fun c0 => ms_tw2_1 hS ok_zz (c0) (fun h1 W => (k1 c0) h1 W.1 (W.2.1 9859) (W.2.2.2.2.2 _ rfl)))
set_option maxRecDepth 20000 in
theorem mp_tw3_0 (h : sm_H) (d : Nat) (zz : Int) : mj_path [(24, (1, 0, sb_24))] sx_sk h 8 [1] (d + 8, 24, 88, [some (.inr (.inr 77))], [.inl (zz)], [], []) = some ((d + 8, 24, 113, [some (.inr (.inr 77))], [.inl (mi_f h 9857), .inl (mi_f h 9858), .inr (.inr 4), .inr (.inr 52)], [], []), [zz = ((0 : Int))]) := rfl
theorem mi_tab_tw3_0 : ∀ e ∈ ([(24, (1, 0, sb_24))] : mi_T), sc_P e.1 = some e.2 := mi_tb mi_P24 (mi_tb_e)
set_option maxRecDepth 20000 in
theorem ms_tw3_0 {h : sm_H} {d : Nat} {Q : Option mi_V → sm_H → Prop} {zz : Int} (hS : ab_Sh sx_sk h) (ok_zz : mi_in zz) (ho : (zz = ((0 : Int)))) (kon : ∀ h1, me_W [] h h1 → ∃ Q1, me_E (d + 7) 26 0 (mi_entry 6 [.inr (.inr 52), .inr (.inr 4), .inl (mi_f h 9858), .inl (mi_f h 9857)]) [] h1 Q1 ∧ ∀ w h2, (∀ x, w = some x → mi_ok x) → Q1 w h2 → me_E (d + 8) 24 116 [some (.inr (.inr 77))] (mi_back w []) h2 Q) : me_E (d + 8) 24 88 [some (.inr (.inr 77))] [.inl (zz)] h Q := mf_seg (mp_tw3_0 h d zz) (mi_tab_tw3_0) hS (mi_okL_c (trivial) (mi_okL_e)) (mi_okS_cons (ok_zz) (mi_okS_e)) (mi_al (ho) (mi_al_e)) (fun h1 W _ hst => let ⟨_, k1, k2⟩ := kon h1 W; mf_call (M := (1, 0, sb_24)) (M' := (6, 4, sb_26)) rfl rfl rfl rfl (Nat.le_of_ble_eq_true rfl) (Nat.le_of_ble_eq_true rfl) W.1 k1 k2)
set_option maxRecDepth 20000 in
theorem mp_tw3_1 (h : sm_H) (d : Nat) (zz : Int) : mj_path [(24, (1, 0, sb_24))] sx_sk h 5 [0] (d + 8, 24, 88, [some (.inr (.inr 77))], [.inl (zz)], [], []) = some ((d + 8, 24, 219, [some (.inr (.inr 77))], [], [.inl (9859, (3 : Int))], []), [zz ≠ ((0 : Int))]) := rfl
theorem mi_tab_tw3_1 : ∀ e ∈ ([(24, (1, 0, sb_24))] : mi_T), sc_P e.1 = some e.2 := mi_tb mi_P24 (mi_tb_e)
set_option maxRecDepth 20000 in
theorem ms_tw3_1 {h : sm_H} {d : Nat} {Q : Option mi_V → sm_H → Prop} {zz : Int} (hS : ab_Sh sx_sk h) (ok_zz : mi_in zz) (ho : (zz ≠ ((0 : Int)))) (kon : ∀ h1, me_W [.inl (9859, (3 : Int))] h h1 → Q none h1) : me_E (d + 8) 24 88 [some (.inr (.inr 77))] [.inl (zz)] h Q := mf_seg (mp_tw3_1 h d zz) (mi_tab_tw3_1) hS (mi_okL_c (trivial) (mi_okL_e)) (mi_okS_cons (ok_zz) (mi_okS_e)) (mi_al (ho) (mi_al_e)) (fun h1 W _ hst => mf_ret (M := (1, 0, sb_24)) rfl rfl rfl hst (mi_al_e) (kon h1 W))
set_option maxRecDepth 20000 in
theorem mt_tw3 {h : sm_H} {d : Nat} {Q : Option mi_V → sm_H → Prop} {zz : Int} (hS : ab_Sh sx_sk h) (ok_zz : mi_in zz) (k0 : (zz = ((0 : Int))) → (∀ h1, ab_Sh sx_sk h1 → ab_Fr [] h h1 → ∃ Q1, me_E (d + 7) 26 0 (mi_entry 6 [.inr (.inr 52), .inr (.inr 4), .inl (mi_f h 9858), .inl (mi_f h 9857)]) [] h1 Q1 ∧ ∀ w h2, (∀ x, w = some x → mi_ok x) → Q1 w h2 → me_E (d + 8) 24 116 [some (.inr (.inr 77))] (mi_back w []) h2 Q)) (k1 : (zz ≠ ((0 : Int))) → (∀ h1, ab_Sh sx_sk h1 → mi_f h1 9859 = (3 : Int) → ab_Fr [(9859, 9860)] h h1 → Q none h1)) : me_E (d + 8) 24 88 [some (.inr (.inr 77))] [.inl (zz)] h Q := Or.elim (mi_em .eq (zz) (((0 : Int)))) (fun c0 => ms_tw3_0 hS ok_zz (c0) (fun h1 W => (k0 c0) h1 W.1 (W.2.2.2.2.2 _ rfl))) (fun c0 => ms_tw3_1 hS ok_zz (c0) (fun h1 W => (k1 c0) h1 W.1 (W.2.1 9859) (W.2.2.2.2.2 _ rfl)))
set_option maxRecDepth 20000 in
theorem mp_tw4_0 (h : sm_H) (d : Nat) (zz : Int) : mj_path [(24, (1, 0, sb_24))] sx_sk h 8 [1] (d + 8, 24, 116, [some (.inr (.inr 77))], [.inl (zz)], [], []) = some ((d + 8, 24, 141, [some (.inr (.inr 77))], [.inl (mi_f h 9857), .inl (mi_f h 9858), .inr (.inr 5), .inr (.inr 52)], [], []), [zz = ((0 : Int))]) := rfl
theorem mi_tab_tw4_0 : ∀ e ∈ ([(24, (1, 0, sb_24))] : mi_T), sc_P e.1 = some e.2 := mi_tb mi_P24 (mi_tb_e)
set_option maxRecDepth 20000 in
theorem ms_tw4_0 {h : sm_H} {d : Nat} {Q : Option mi_V → sm_H → Prop} {zz : Int} (hS : ab_Sh sx_sk h) (ok_zz : mi_in zz) (ho : (zz = ((0 : Int)))) (kon : ∀ h1, me_W [] h h1 → ∃ Q1, me_E (d + 7) 26 0 (mi_entry 6 [.inr (.inr 52), .inr (.inr 5), .inl (mi_f h 9858), .inl (mi_f h 9857)]) [] h1 Q1 ∧ ∀ w h2, (∀ x, w = some x → mi_ok x) → Q1 w h2 → me_E (d + 8) 24 144 [some (.inr (.inr 77))] (mi_back w []) h2 Q) : me_E (d + 8) 24 116 [some (.inr (.inr 77))] [.inl (zz)] h Q := mf_seg (mp_tw4_0 h d zz) (mi_tab_tw4_0) hS (mi_okL_c (trivial) (mi_okL_e)) (mi_okS_cons (ok_zz) (mi_okS_e)) (mi_al (ho) (mi_al_e)) (fun h1 W _ hst => let ⟨_, k1, k2⟩ := kon h1 W; mf_call (M := (1, 0, sb_24)) (M' := (6, 4, sb_26)) rfl rfl rfl rfl (Nat.le_of_ble_eq_true rfl) (Nat.le_of_ble_eq_true rfl) W.1 k1 k2)
set_option maxRecDepth 20000 in
theorem mp_tw4_1 (h : sm_H) (d : Nat) (zz : Int) : mj_path [(24, (1, 0, sb_24))] sx_sk h 5 [0] (d + 8, 24, 116, [some (.inr (.inr 77))], [.inl (zz)], [], []) = some ((d + 8, 24, 219, [some (.inr (.inr 77))], [], [.inl (9859, (4 : Int))], []), [zz ≠ ((0 : Int))]) := rfl
theorem mi_tab_tw4_1 : ∀ e ∈ ([(24, (1, 0, sb_24))] : mi_T), sc_P e.1 = some e.2 := mi_tb mi_P24 (mi_tb_e)
set_option maxRecDepth 20000 in
theorem ms_tw4_1 {h : sm_H} {d : Nat} {Q : Option mi_V → sm_H → Prop} {zz : Int} (hS : ab_Sh sx_sk h) (ok_zz : mi_in zz) (ho : (zz ≠ ((0 : Int)))) (kon : ∀ h1, me_W [.inl (9859, (4 : Int))] h h1 → Q none h1) : me_E (d + 8) 24 116 [some (.inr (.inr 77))] [.inl (zz)] h Q := mf_seg (mp_tw4_1 h d zz) (mi_tab_tw4_1) hS (mi_okL_c (trivial) (mi_okL_e)) (mi_okS_cons (ok_zz) (mi_okS_e)) (mi_al (ho) (mi_al_e)) (fun h1 W _ hst => mf_ret (M := (1, 0, sb_24)) rfl rfl rfl hst (mi_al_e) (kon h1 W))
set_option maxRecDepth 20000 in
theorem mt_tw4 {h : sm_H} {d : Nat} {Q : Option mi_V → sm_H → Prop} {zz : Int} (hS : ab_Sh sx_sk h) (ok_zz : mi_in zz) (k0 : (zz = ((0 : Int))) → (∀ h1, ab_Sh sx_sk h1 → ab_Fr [] h h1 → ∃ Q1, me_E (d + 7) 26 0 (mi_entry 6 [.inr (.inr 52), .inr (.inr 5), .inl (mi_f h 9858), .inl (mi_f h 9857)]) [] h1 Q1 ∧ ∀ w h2, (∀ x, w = some x → mi_ok x) → Q1 w h2 → me_E (d + 8) 24 144 [some (.inr (.inr 77))] (mi_back w []) h2 Q)) (k1 : (zz ≠ ((0 : Int))) → (∀ h1, ab_Sh sx_sk h1 → mi_f h1 9859 = (4 : Int) → ab_Fr [(9859, 9860)] h h1 → Q none h1)) : me_E (d + 8) 24 116 [some (.inr (.inr 77))] [.inl (zz)] h Q := Or.elim (mi_em .eq (zz) (((0 : Int)))) (fun c0 => ms_tw4_0 hS ok_zz (c0) (fun h1 W => (k0 c0) h1 W.1 (W.2.2.2.2.2 _ rfl))) (fun c0 => ms_tw4_1 hS ok_zz (c0) (fun h1 W => (k1 c0) h1 W.1 (W.2.1 9859) (W.2.2.2.2.2 _ rfl)))
set_option maxRecDepth 20000 in
theorem mp_tw5_0 (h : sm_H) (d : Nat) (zz : Int) : mj_path [(24, (1, 0, sb_24))] sx_sk h 8 [1] (d + 8, 24, 144, [some (.inr (.inr 77))], [.inl (zz)], [], []) = some ((d + 8, 24, 169, [some (.inr (.inr 77))], [.inl (mi_f h 9857), .inl (mi_f h 9858), .inr (.inr 6), .inr (.inr 52)], [], []), [zz = ((0 : Int))]) := rfl
theorem mi_tab_tw5_0 : ∀ e ∈ ([(24, (1, 0, sb_24))] : mi_T), sc_P e.1 = some e.2 := mi_tb mi_P24 (mi_tb_e)
set_option maxRecDepth 20000 in
theorem ms_tw5_0 {h : sm_H} {d : Nat} {Q : Option mi_V → sm_H → Prop} {zz : Int} (hS : ab_Sh sx_sk h) (ok_zz : mi_in zz) (ho : (zz = ((0 : Int)))) (kon : ∀ h1, me_W [] h h1 → ∃ Q1, me_E (d + 7) 26 0 (mi_entry 6 [.inr (.inr 52), .inr (.inr 6), .inl (mi_f h 9858), .inl (mi_f h 9857)]) [] h1 Q1 ∧ ∀ w h2, (∀ x, w = some x → mi_ok x) → Q1 w h2 → me_E (d + 8) 24 172 [some (.inr (.inr 77))] (mi_back w []) h2 Q) : me_E (d + 8) 24 144 [some (.inr (.inr 77))] [.inl (zz)] h Q := mf_seg (mp_tw5_0 h d zz) (mi_tab_tw5_0) hS (mi_okL_c (trivial) (mi_okL_e)) (mi_okS_cons (ok_zz) (mi_okS_e)) (mi_al (ho) (mi_al_e)) (fun h1 W _ hst => let ⟨_, k1, k2⟩ := kon h1 W; mf_call (M := (1, 0, sb_24)) (M' := (6, 4, sb_26)) rfl rfl rfl rfl (Nat.le_of_ble_eq_true rfl) (Nat.le_of_ble_eq_true rfl) W.1 k1 k2)
set_option maxRecDepth 20000 in
theorem mp_tw5_1 (h : sm_H) (d : Nat) (zz : Int) : mj_path [(24, (1, 0, sb_24))] sx_sk h 5 [0] (d + 8, 24, 144, [some (.inr (.inr 77))], [.inl (zz)], [], []) = some ((d + 8, 24, 219, [some (.inr (.inr 77))], [], [.inl (9859, (5 : Int))], []), [zz ≠ ((0 : Int))]) := rfl
theorem mi_tab_tw5_1 : ∀ e ∈ ([(24, (1, 0, sb_24))] : mi_T), sc_P e.1 = some e.2 := mi_tb mi_P24 (mi_tb_e)
set_option maxRecDepth 20000 in
theorem ms_tw5_1 {h : sm_H} {d : Nat} {Q : Option mi_V → sm_H → Prop} {zz : Int} (hS : ab_Sh sx_sk h) (ok_zz : mi_in zz) (ho : (zz ≠ ((0 : Int)))) (kon : ∀ h1, me_W [.inl (9859, (5 : Int))] h h1 → Q none h1) : me_E (d + 8) 24 144 [some (.inr (.inr 77))] [.inl (zz)] h Q := mf_seg (mp_tw5_1 h d zz) (mi_tab_tw5_1) hS (mi_okL_c (trivial) (mi_okL_e)) (mi_okS_cons (ok_zz) (mi_okS_e)) (mi_al (ho) (mi_al_e)) (fun h1 W _ hst => mf_ret (M := (1, 0, sb_24)) rfl rfl rfl hst (mi_al_e) (kon h1 W))
set_option maxRecDepth 20000 in
theorem mt_tw5 {h : sm_H} {d : Nat} {Q : Option mi_V → sm_H → Prop} {zz : Int} (hS : ab_Sh sx_sk h) (ok_zz : mi_in zz) (k0 : (zz = ((0 : Int))) → (∀ h1, ab_Sh sx_sk h1 → ab_Fr [] h h1 → ∃ Q1, me_E (d + 7) 26 0 (mi_entry 6 [.inr (.inr 52), .inr (.inr 6), .inl (mi_f h 9858), .inl (mi_f h 9857)]) [] h1 Q1 ∧ ∀ w h2, (∀ x, w = some x → mi_ok x) → Q1 w h2 → me_E (d + 8) 24 172 [some (.inr (.inr 77))] (mi_back w []) h2 Q)) (k1 : (zz ≠ ((0 : Int))) → (∀ h1, ab_Sh sx_sk h1 → mi_f h1 9859 = (5 : Int) → ab_Fr [(9859, 9860)] h h1 → Q none h1)) : me_E (d + 8) 24 144 [some (.inr (.inr 77))] [.inl (zz)] h Q := Or.elim (mi_em .eq (zz) (((0 : Int)))) (fun c0 => ms_tw5_0 hS ok_zz (c0) (fun h1 W => (k0 c0) h1 W.1 (W.2.2.2.2.2 _ rfl))) (fun c0 => ms_tw5_1 hS ok_zz (c0) (fun h1 W => (k1 c0) h1 W.1 (W.2.1 9859) (W.2.2.2.2.2 _ rfl)))
set_option maxRecDepth 20000 in
theorem mp_tw6_0 (h : sm_H) (d : Nat) (zz : Int) : mj_path [(24, (1, 0, sb_24))] sx_sk h 8 [1] (d + 8, 24, 172, [some (.inr (.inr 77))], [.inl (zz)], [], []) = some ((d + 8, 24, 198, [some (.inr (.inr 77))], [.inl (mi_f h 9857), .inl (mi_f h 9858), .inr (.inr 7), .inr (.inr 52)], [], []), [zz = ((0 : Int))]) := rfl
theorem mi_tab_tw6_0 : ∀ e ∈ ([(24, (1, 0, sb_24))] : mi_T), sc_P e.1 = some e.2 := mi_tb mi_P24 (mi_tb_e)
set_option maxRecDepth 20000 in
theorem ms_tw6_0 {h : sm_H} {d : Nat} {Q : Option mi_V → sm_H → Prop} {zz : Int} (hS : ab_Sh sx_sk h) (ok_zz : mi_in zz) (ho : (zz = ((0 : Int)))) (kon : ∀ h1, me_W [] h h1 → ∃ Q1, me_E (d + 7) 26 0 (mi_entry 6 [.inr (.inr 52), .inr (.inr 7), .inl (mi_f h 9858), .inl (mi_f h 9857)]) [] h1 Q1 ∧ ∀ w h2, (∀ x, w = some x → mi_ok x) → Q1 w h2 → me_E (d + 8) 24 201 [some (.inr (.inr 77))] (mi_back w []) h2 Q) : me_E (d + 8) 24 172 [some (.inr (.inr 77))] [.inl (zz)] h Q := mf_seg (mp_tw6_0 h d zz) (mi_tab_tw6_0) hS (mi_okL_c (trivial) (mi_okL_e)) (mi_okS_cons (ok_zz) (mi_okS_e)) (mi_al (ho) (mi_al_e)) (fun h1 W _ hst => let ⟨_, k1, k2⟩ := kon h1 W; mf_call (M := (1, 0, sb_24)) (M' := (6, 4, sb_26)) rfl rfl rfl rfl (Nat.le_of_ble_eq_true rfl) (Nat.le_of_ble_eq_true rfl) W.1 k1 k2)
set_option maxRecDepth 20000 in
theorem mp_tw6_1 (h : sm_H) (d : Nat) (zz : Int) : mj_path [(24, (1, 0, sb_24))] sx_sk h 5 [0] (d + 8, 24, 172, [some (.inr (.inr 77))], [.inl (zz)], [], []) = some ((d + 8, 24, 219, [some (.inr (.inr 77))], [], [.inl (9859, (6 : Int))], []), [zz ≠ ((0 : Int))]) := rfl
theorem mi_tab_tw6_1 : ∀ e ∈ ([(24, (1, 0, sb_24))] : mi_T), sc_P e.1 = some e.2 := mi_tb mi_P24 (mi_tb_e)
set_option maxRecDepth 20000 in
theorem ms_tw6_1 {h : sm_H} {d : Nat} {Q : Option mi_V → sm_H → Prop} {zz : Int} (hS : ab_Sh sx_sk h) (ok_zz : mi_in zz) (ho : (zz ≠ ((0 : Int)))) (kon : ∀ h1, me_W [.inl (9859, (6 : Int))] h h1 → Q none h1) : me_E (d + 8) 24 172 [some (.inr (.inr 77))] [.inl (zz)] h Q := mf_seg (mp_tw6_1 h d zz) (mi_tab_tw6_1) hS (mi_okL_c (trivial) (mi_okL_e)) (mi_okS_cons (ok_zz) (mi_okS_e)) (mi_al (ho) (mi_al_e)) (fun h1 W _ hst => mf_ret (M := (1, 0, sb_24)) rfl rfl rfl hst (mi_al_e) (kon h1 W))
set_option maxRecDepth 20000 in
theorem mt_tw6 {h : sm_H} {d : Nat} {Q : Option mi_V → sm_H → Prop} {zz : Int} (hS : ab_Sh sx_sk h) (ok_zz : mi_in zz) (k0 : (zz = ((0 : Int))) → (∀ h1, ab_Sh sx_sk h1 → ab_Fr [] h h1 → ∃ Q1, me_E (d + 7) 26 0 (mi_entry 6 [.inr (.inr 52), .inr (.inr 7), .inl (mi_f h 9858), .inl (mi_f h 9857)]) [] h1 Q1 ∧ ∀ w h2, (∀ x, w = some x → mi_ok x) → Q1 w h2 → me_E (d + 8) 24 201 [some (.inr (.inr 77))] (mi_back w []) h2 Q)) (k1 : (zz ≠ ((0 : Int))) → (∀ h1, ab_Sh sx_sk h1 → mi_f h1 9859 = (6 : Int) → ab_Fr [(9859, 9860)] h h1 → Q none h1)) : me_E (d + 8) 24 172 [some (.inr (.inr 77))] [.inl (zz)] h Q := Or.elim (mi_em .eq (zz) (((0 : Int)))) (fun c0 => ms_tw6_0 hS ok_zz (c0) (fun h1 W => (k0 c0) h1 W.1 (W.2.2.2.2.2 _ rfl))) (fun c0 => ms_tw6_1 hS ok_zz (c0) (fun h1 W => (k1 c0) h1 W.1 (W.2.1 9859) (W.2.2.2.2.2 _ rfl)))
set_option maxRecDepth 20000 in
theorem mp_tw7_0 (h : sm_H) (d : Nat) (zz : Int) : mj_path [(24, (1, 0, sb_24))] sx_sk h 4 [1] (d + 8, 24, 201, [some (.inr (.inr 77))], [.inl (zz)], [], []) = some ((d + 8, 24, 219, [some (.inr (.inr 77))], [], [.inl (9859, (12 : Int))], []), [zz = ((0 : Int))]) := rfl
theorem mi_tab_tw7_0 : ∀ e ∈ ([(24, (1, 0, sb_24))] : mi_T), sc_P e.1 = some e.2 := mi_tb mi_P24 (mi_tb_e)
set_option maxRecDepth 20000 in
theorem ms_tw7_0 {h : sm_H} {d : Nat} {Q : Option mi_V → sm_H → Prop} {zz : Int} (hS : ab_Sh sx_sk h) (ok_zz : mi_in zz) (ho : (zz = ((0 : Int)))) (kon : ∀ h1, me_W [.inl (9859, (12 : Int))] h h1 → Q none h1) : me_E (d + 8) 24 201 [some (.inr (.inr 77))] [.inl (zz)] h Q := mf_seg (mp_tw7_0 h d zz) (mi_tab_tw7_0) hS (mi_okL_c (trivial) (mi_okL_e)) (mi_okS_cons (ok_zz) (mi_okS_e)) (mi_al (ho) (mi_al_e)) (fun h1 W _ hst => mf_ret (M := (1, 0, sb_24)) rfl rfl rfl hst (mi_al_e) (kon h1 W))
set_option maxRecDepth 20000 in
theorem mp_tw7_1 (h : sm_H) (d : Nat) (zz : Int) : mj_path [(24, (1, 0, sb_24))] sx_sk h 5 [0] (d + 8, 24, 201, [some (.inr (.inr 77))], [.inl (zz)], [], []) = some ((d + 8, 24, 219, [some (.inr (.inr 77))], [], [.inl (9859, (7 : Int))], []), [zz ≠ ((0 : Int))]) := rfl
theorem mi_tab_tw7_1 : ∀ e ∈ ([(24, (1, 0, sb_24))] : mi_T), sc_P e.1 = some e.2 := mi_tb mi_P24 (mi_tb_e)
set_option maxRecDepth 20000 in
theorem ms_tw7_1 {h : sm_H} {d : Nat} {Q : Option mi_V → sm_H → Prop} {zz : Int} (hS : ab_Sh sx_sk h) (ok_zz : mi_in zz) (ho : (zz ≠ ((0 : Int)))) (kon : ∀ h1, me_W [.inl (9859, (7 : Int))] h h1 → Q none h1) : me_E (d + 8) 24 201 [some (.inr (.inr 77))] [.inl (zz)] h Q := mf_seg (mp_tw7_1 h d zz) (mi_tab_tw7_1) hS (mi_okL_c (trivial) (mi_okL_e)) (mi_okS_cons (ok_zz) (mi_okS_e)) (mi_al (ho) (mi_al_e)) (fun h1 W _ hst => mf_ret (M := (1, 0, sb_24)) rfl rfl rfl hst (mi_al_e) (kon h1 W))
set_option maxRecDepth 20000 in
theorem mt_tw7 {h : sm_H} {d : Nat} {Q : Option mi_V → sm_H → Prop} {zz : Int} (hS : ab_Sh sx_sk h) (ok_zz : mi_in zz) (k0 : (zz = ((0 : Int))) → (∀ h1, ab_Sh sx_sk h1 → mi_f h1 9859 = (12 : Int) → ab_Fr [(9859, 9860)] h h1 → Q none h1)) (k1 : (zz ≠ ((0 : Int))) → (∀ h1, ab_Sh sx_sk h1 → mi_f h1 9859 = (7 : Int) → ab_Fr [(9859, 9860)] h h1 → Q none h1)) : me_E (d + 8) 24 201 [some (.inr (.inr 77))] [.inl (zz)] h Q := Or.elim (mi_em .eq (zz) (((0 : Int)))) (fun c0 => ms_tw7_0 hS ok_zz (c0) (fun h1 W => (k0 c0) h1 W.1 (W.2.1 9859) (W.2.2.2.2.2 _ rfl))) (fun c0 => ms_tw7_1 hS ok_zz (c0) (fun h1 W => (k1 c0) h1 W.1 (W.2.1 9859) (W.2.2.2.2.2 _ rfl)))
set_option maxRecDepth 20000 in
theorem mp_tkA_0 (h : sm_H) (d : Nat) : mj_path [(33, (3, 0, sb_33))] sx_sk h 6 [8] (d + 8, 33, 0, [some (.inr (.inr 77)), none, none], [], [], []) = some ((d + 8, 33, 10, [some (.inr (.inr 77)), none, none], [.inl ((mi_f h 9858) + ((1 : Int))), .inr (.inr 52)], [], []), [-2147483648 ≤ (mi_f h 9858) + ((1 : Int)) ∧ (mi_f h 9858) + ((1 : Int)) ≤ 2147483647]) := rfl
theorem mi_tab_tkA_0 : ∀ e ∈ ([(33, (3, 0, sb_33))] : mi_T), sc_P e.1 = some e.2 := mi_tb mi_P33 (mi_tb_e)
set_option maxRecDepth 20000 in
theorem ms_tkA_0 {h : sm_H} {d : Nat} {Q : Option mi_V → sm_H → Prop} (hS : ab_Sh sx_sk h)  (ho : (-2147483648 ≤ (mi_f h 9858) + ((1 : Int)) ∧ (mi_f h 9858) + ((1 : Int)) ≤ 2147483647)) (kon : ∀ h1, me_W [] h h1 → ∃ Q1, me_E (d + 7) 25 0 (mi_entry 3 [.inr (.inr 52), .inl ((mi_f h 9858) + ((1 : Int)))]) [] h1 Q1 ∧ ∀ w h2, (∀ x, w = some x → mi_ok x) → Q1 w h2 → me_E (d + 8) 33 13 [some (.inr (.inr 77)), none, none] (mi_back w []) h2 Q) : me_E (d + 8) 33 0 [some (.inr (.inr 77)), none, none] [] h Q := mf_seg (mp_tkA_0 h d ) (mi_tab_tkA_0) hS (mi_okL_c (trivial) (mi_okL_n (mi_okL_n (mi_okL_e)))) (mi_okS_e) (mi_al (ho) (mi_al_e)) (fun h1 W _ hst => let ⟨_, k1, k2⟩ := kon h1 W; mf_call (M := (3, 0, sb_33)) (M' := (3, 1, sb_25)) rfl rfl rfl rfl (Nat.le_of_ble_eq_true rfl) (Nat.le_of_ble_eq_true rfl) W.1 k1 k2)
set_option maxRecDepth 20000 in
theorem mt_tkA {h : sm_H} {d : Nat} {Q : Option mi_V → sm_H → Prop} (hS : ab_Sh sx_sk h)  (k0 : (0 ≤ mi_f h 9858 ∧ mi_f h 9858 ≤ 241) → ((-2147483648 ≤ (mi_f h 9858) + ((1 : Int)) ∧ (mi_f h 9858) + ((1 : Int)) ≤ 2147483647)) ∧ (∀ h1, ab_Sh sx_sk h1 → ab_Fr [] h h1 → ∃ Q1, me_E (d + 7) 25 0 (mi_entry 3 [.inr (.inr 52), .inl ((mi_f h 9858) + ((1 : Int)))]) [] h1 Q1 ∧ ∀ w h2, (∀ x, w = some x → mi_ok x) → Q1 w h2 → me_E (d + 8) 33 13 [some (.inr (.inr 77)), none, none] (mi_back w []) h2 Q)) : me_E (d + 8) 33 0 [some (.inr (.inr 77)), none, none] [] h Q := ms_tkA_0 hS ((k0 (me_fb hS rfl)).1) (fun h1 W => (k0 (me_fb hS rfl)).2 h1 W.1 (W.2.2.2.2.2 _ rfl))
set_option maxRecDepth 20000 in
theorem mp_tkB_0 (h : sm_H) (d : Nat) (zz : Int) : mj_path [(33, (3, 0, sb_33))] sx_sk h 14 [8, 8, 1] (d + 8, 33, 13, [some (.inr (.inr 77)), none, none], [.inl (zz)], [], []) = some ((d + 8, 33, 52, [some (.inr (.inr 77)), some (.inl (zz)), some (.inl ((zz - (mi_f h 9858)) - ((1 : Int))))], [], [.inl (9859, (12 : Int))], []), [-2147483648 ≤ zz - (mi_f h 9858) ∧ zz - (mi_f h 9858) ≤ 2147483647, -2147483648 ≤ (zz - (mi_f h 9858)) - ((1 : Int)) ∧ (zz - (mi_f h 9858)) - ((1 : Int)) ≤ 2147483647, ((zz - (mi_f h 9858)) - ((1 : Int))) < ((1 : Int))]) := rfl
theorem mi_tab_tkB_0 : ∀ e ∈ ([(33, (3, 0, sb_33))] : mi_T), sc_P e.1 = some e.2 := mi_tb mi_P33 (mi_tb_e)
set_option maxRecDepth 20000 in
theorem ms_tkB_0 {h : sm_H} {d : Nat} {Q : Option mi_V → sm_H → Prop} {zz : Int} (hS : ab_Sh sx_sk h) (ok_zz : mi_in zz) (ho : (-2147483648 ≤ zz - (mi_f h 9858) ∧ zz - (mi_f h 9858) ≤ 2147483647) ∧ (-2147483648 ≤ (zz - (mi_f h 9858)) - ((1 : Int)) ∧ (zz - (mi_f h 9858)) - ((1 : Int)) ≤ 2147483647) ∧ (((zz - (mi_f h 9858)) - ((1 : Int))) < ((1 : Int)))) (kon : ∀ h1, me_W [.inl (9859, (12 : Int))] h h1 → Q none h1) : me_E (d + 8) 33 13 [some (.inr (.inr 77)), none, none] [.inl (zz)] h Q := mf_seg (mp_tkB_0 h d zz) (mi_tab_tkB_0) hS (mi_okL_c (trivial) (mi_okL_n (mi_okL_n (mi_okL_e)))) (mi_okS_cons (ok_zz) (mi_okS_e)) (mi_al (ho.1) (mi_al (ho.2.1) (mi_al (ho.2.2) (mi_al_e)))) (fun h1 W _ hst => mf_ret (M := (3, 0, sb_33)) rfl rfl rfl hst (mi_al_e) (kon h1 W))
set_option maxRecDepth 20000 in
theorem mp_tkB_1 (h : sm_H) (d : Nat) (zz : Int) : mj_path [(33, (3, 0, sb_33))] sx_sk h 17 [8, 8, 0, 1] (d + 8, 33, 13, [some (.inr (.inr 77)), none, none], [.inl (zz)], [], []) = some ((d + 8, 33, 52, [some (.inr (.inr 77)), some (.inl (zz)), some (.inl ((zz - (mi_f h 9858)) - ((1 : Int))))], [], [.inl (9859, (12 : Int))], []), [-2147483648 ≤ zz - (mi_f h 9858) ∧ zz - (mi_f h 9858) ≤ 2147483647, -2147483648 ≤ (zz - (mi_f h 9858)) - ((1 : Int)) ∧ (zz - (mi_f h 9858)) - ((1 : Int)) ≤ 2147483647, ((1 : Int)) ≤ ((zz - (mi_f h 9858)) - ((1 : Int))), ((5 : Int)) < ((zz - (mi_f h 9858)) - ((1 : Int)))]) := rfl
theorem mi_tab_tkB_1 : ∀ e ∈ ([(33, (3, 0, sb_33))] : mi_T), sc_P e.1 = some e.2 := mi_tb mi_P33 (mi_tb_e)
set_option maxRecDepth 20000 in
theorem ms_tkB_1 {h : sm_H} {d : Nat} {Q : Option mi_V → sm_H → Prop} {zz : Int} (hS : ab_Sh sx_sk h) (ok_zz : mi_in zz) (ho : (-2147483648 ≤ zz - (mi_f h 9858) ∧ zz - (mi_f h 9858) ≤ 2147483647) ∧ (-2147483648 ≤ (zz - (mi_f h 9858)) - ((1 : Int)) ∧ (zz - (mi_f h 9858)) - ((1 : Int)) ≤ 2147483647) ∧ (((1 : Int)) ≤ ((zz - (mi_f h 9858)) - ((1 : Int)))) ∧ (((5 : Int)) < ((zz - (mi_f h 9858)) - ((1 : Int))))) (kon : ∀ h1, me_W [.inl (9859, (12 : Int))] h h1 → Q none h1) : me_E (d + 8) 33 13 [some (.inr (.inr 77)), none, none] [.inl (zz)] h Q := mf_seg (mp_tkB_1 h d zz) (mi_tab_tkB_1) hS (mi_okL_c (trivial) (mi_okL_n (mi_okL_n (mi_okL_e)))) (mi_okS_cons (ok_zz) (mi_okS_e)) (mi_al (ho.1) (mi_al (ho.2.1) (mi_al (ho.2.2.1) (mi_al (ho.2.2.2) (mi_al_e))))) (fun h1 W _ hst => mf_ret (M := (3, 0, sb_33)) rfl rfl rfl hst (mi_al_e) (kon h1 W))
set_option maxRecDepth 20000 in
theorem mp_tkB_2 (h : sm_H) (d : Nat) (zz : Int) : mj_path [(33, (3, 0, sb_33))] sx_sk h 17 [8, 8, 0, 0] (d + 8, 33, 13, [some (.inr (.inr 77)), none, none], [.inl (zz)], [], []) = some ((d + 8, 33, 38, [some (.inr (.inr 77)), some (.inl (zz)), some (.inl ((zz - (mi_f h 9858)) - ((1 : Int))))], [.inl (zz), .inr (.inr 52)], [], []), [-2147483648 ≤ zz - (mi_f h 9858) ∧ zz - (mi_f h 9858) ≤ 2147483647, -2147483648 ≤ (zz - (mi_f h 9858)) - ((1 : Int)) ∧ (zz - (mi_f h 9858)) - ((1 : Int)) ≤ 2147483647, ((1 : Int)) ≤ ((zz - (mi_f h 9858)) - ((1 : Int))), ((zz - (mi_f h 9858)) - ((1 : Int))) ≤ ((5 : Int))]) := rfl
theorem mi_tab_tkB_2 : ∀ e ∈ ([(33, (3, 0, sb_33))] : mi_T), sc_P e.1 = some e.2 := mi_tb mi_P33 (mi_tb_e)
set_option maxRecDepth 20000 in
theorem ms_tkB_2 {h : sm_H} {d : Nat} {Q : Option mi_V → sm_H → Prop} {zz : Int} (hS : ab_Sh sx_sk h) (ok_zz : mi_in zz) (ho : (-2147483648 ≤ zz - (mi_f h 9858) ∧ zz - (mi_f h 9858) ≤ 2147483647) ∧ (-2147483648 ≤ (zz - (mi_f h 9858)) - ((1 : Int)) ∧ (zz - (mi_f h 9858)) - ((1 : Int)) ≤ 2147483647) ∧ (((1 : Int)) ≤ ((zz - (mi_f h 9858)) - ((1 : Int)))) ∧ (((zz - (mi_f h 9858)) - ((1 : Int))) ≤ ((5 : Int)))) (kon : ∀ h1, me_W [] h h1 → ∃ Q1, me_E (d + 7) 20 0 (mi_entry 2 [.inr (.inr 52), .inl (zz)]) [] h1 Q1 ∧ ∀ w h2, (∀ x, w = some x → mi_ok x) → Q1 w h2 → me_E (d + 8) 33 41 [some (.inr (.inr 77)), some (.inl (zz)), some (.inl ((zz - (mi_f h 9858)) - ((1 : Int))))] (mi_back w []) h2 Q) : me_E (d + 8) 33 13 [some (.inr (.inr 77)), none, none] [.inl (zz)] h Q := mf_seg (mp_tkB_2 h d zz) (mi_tab_tkB_2) hS (mi_okL_c (trivial) (mi_okL_n (mi_okL_n (mi_okL_e)))) (mi_okS_cons (ok_zz) (mi_okS_e)) (mi_al (ho.1) (mi_al (ho.2.1) (mi_al (ho.2.2.1) (mi_al (ho.2.2.2) (mi_al_e))))) (fun h1 W _ hst => let ⟨_, k1, k2⟩ := kon h1 W; mf_call (M := (3, 0, sb_33)) (M' := (2, 5, sb_20)) rfl rfl rfl rfl (Nat.le_of_ble_eq_true rfl) (Nat.le_of_ble_eq_true rfl) W.1 k1 k2)
set_option maxRecDepth 20000 in
theorem mt_tkB {h : sm_H} {d : Nat} {Q : Option mi_V → sm_H → Prop} {zz : Int} (hS : ab_Sh sx_sk h) (ok_zz : mi_in zz) (k0 : (0 ≤ mi_f h 9858 ∧ mi_f h 9858 ≤ 241) → (((zz - (mi_f h 9858)) - ((1 : Int))) < ((1 : Int))) → ((-2147483648 ≤ zz - (mi_f h 9858) ∧ zz - (mi_f h 9858) ≤ 2147483647) ∧ (-2147483648 ≤ (zz - (mi_f h 9858)) - ((1 : Int)) ∧ (zz - (mi_f h 9858)) - ((1 : Int)) ≤ 2147483647)) ∧ (∀ h1, ab_Sh sx_sk h1 → mi_f h1 9859 = (12 : Int) → ab_Fr [(9859, 9860)] h h1 → Q none h1)) (k1 : (0 ≤ mi_f h 9858 ∧ mi_f h 9858 ≤ 241) → (((1 : Int)) ≤ ((zz - (mi_f h 9858)) - ((1 : Int)))) → (((5 : Int)) < ((zz - (mi_f h 9858)) - ((1 : Int)))) → ((-2147483648 ≤ zz - (mi_f h 9858) ∧ zz - (mi_f h 9858) ≤ 2147483647) ∧ (-2147483648 ≤ (zz - (mi_f h 9858)) - ((1 : Int)) ∧ (zz - (mi_f h 9858)) - ((1 : Int)) ≤ 2147483647)) ∧ (∀ h1, ab_Sh sx_sk h1 → mi_f h1 9859 = (12 : Int) → ab_Fr [(9859, 9860)] h h1 → Q none h1)) (k2 : (0 ≤ mi_f h 9858 ∧ mi_f h 9858 ≤ 241) → (((1 : Int)) ≤ ((zz - (mi_f h 9858)) - ((1 : Int)))) → (((zz - (mi_f h 9858)) - ((1 : Int))) ≤ ((5 : Int))) → ((-2147483648 ≤ zz - (mi_f h 9858) ∧ zz - (mi_f h 9858) ≤ 2147483647) ∧ (-2147483648 ≤ (zz - (mi_f h 9858)) - ((1 : Int)) ∧ (zz - (mi_f h 9858)) - ((1 : Int)) ≤ 2147483647)) ∧ (∀ h1, ab_Sh sx_sk h1 → ab_Fr [] h h1 → ∃ Q1, me_E (d + 7) 20 0 (mi_entry 2 [.inr (.inr 52), .inl (zz)]) [] h1 Q1 ∧ ∀ w h2, (∀ x, w = some x → mi_ok x) → Q1 w h2 → me_E (d + 8) 33 41 [some (.inr (.inr 77)), some (.inl (zz)), some (.inl ((zz - (mi_f h 9858)) - ((1 : Int))))] (mi_back w []) h2 Q)) : me_E (d + 8) 33 13 [some (.inr (.inr 77)), none, none] [.inl (zz)] h Q := Or.elim (mi_em .lt (((zz - (mi_f h 9858)) - ((1 : Int)))) (((1 : Int)))) (fun c0 => ms_tkB_0 hS ok_zz ⟨(k0 (me_fb hS rfl) c0).1.1, (k0 (me_fb hS rfl) c0).1.2, c0⟩ (fun h1 W => (k0 (me_fb hS rfl) c0).2 h1 W.1 (W.2.1 9859) (W.2.2.2.2.2 _ rfl))) (fun c0 => Or.elim (mi_em .gt (((zz - (mi_f h 9858)) - ((1 : Int)))) (((5 : Int)))) (fun c1 => ms_tkB_1 hS ok_zz ⟨(k1 (me_fb hS rfl) c0 c1).1.1, (k1 (me_fb hS rfl) c0 c1).1.2, c0, c1⟩ (fun h1 W => (k1 (me_fb hS rfl) c0 c1).2 h1 W.1 (W.2.1 9859) (W.2.2.2.2.2 _ rfl))) (fun c1 => ms_tkB_2 hS ok_zz ⟨(k2 (me_fb hS rfl) c0 c1).1.1, (k2 (me_fb hS rfl) c0 c1).1.2, c0, c1⟩ (fun h1 W => (k2 (me_fb hS rfl) c0 c1).2 h1 W.1 (W.2.2.2.2.2 _ rfl))))
set_option maxRecDepth 20000 in
theorem mp_tkC_0 (h : sm_H) (d : Nat) (ze zl zz : Int) : mj_path [(33, (3, 0, sb_33))] sx_sk h 13 [1, 8] (d + 8, 33, 41, [some (.inr (.inr 77)), some (.inl (ze)), some (.inl (zl))], [.inl (zz)], [], []) = some ((d + 8, 33, 71, [some (.inr (.inr 77)), some (.inl (ze)), some (.inl (zl))], [.inl (ze), .inl ((mi_f h 9858) + ((1 : Int))), .inr (.inr 52), .inr (.inr 77)], [.inl (9859, (8 : Int))], []), [zz = ((34 : Int)), -2147483648 ≤ (mi_f h 9858) + ((1 : Int)) ∧ (mi_f h 9858) + ((1 : Int)) ≤ 2147483647]) := rfl
theorem mi_tab_tkC_0 : ∀ e ∈ ([(33, (3, 0, sb_33))] : mi_T), sc_P e.1 = some e.2 := mi_tb mi_P33 (mi_tb_e)
set_option maxRecDepth 20000 in
theorem ms_tkC_0 {h : sm_H} {d : Nat} {Q : Option mi_V → sm_H → Prop} {ze zl zz : Int} (hS : ab_Sh sx_sk h) (ok_ze : mi_in ze) (ok_zl : mi_in zl) (ok_zz : mi_in zz) (ho : (zz = ((34 : Int))) ∧ (-2147483648 ≤ (mi_f h 9858) + ((1 : Int)) ∧ (mi_f h 9858) + ((1 : Int)) ≤ 2147483647)) (kon : ∀ h1, me_W [.inl (9859, (8 : Int))] h h1 → ∃ Q1, me_E (d + 7) 34 0 (mi_entry 5 [.inr (.inr 52), .inl ((mi_f h 9858) + ((1 : Int))), .inl (ze)]) [] h1 Q1 ∧ ∀ w h2, (∀ x, w = some x → mi_ok x) → Q1 w h2 → me_E (d + 8) 33 74 [some (.inr (.inr 77)), some (.inl (ze)), some (.inl (zl))] (mi_back w [.inr (.inr 77)]) h2 Q) : me_E (d + 8) 33 41 [some (.inr (.inr 77)), some (.inl (ze)), some (.inl (zl))] [.inl (zz)] h Q := mf_seg (mp_tkC_0 h d ze zl zz) (mi_tab_tkC_0) hS (mi_okL_c (trivial) (mi_okL_c (ok_ze) (mi_okL_c (ok_zl) (mi_okL_e)))) (mi_okS_cons (ok_zz) (mi_okS_e)) (mi_al (ho.1) (mi_al (ho.2) (mi_al_e))) (fun h1 W _ hst => let ⟨_, k1, k2⟩ := kon h1 W; mf_call (M := (3, 0, sb_33)) (M' := (5, 1, sb_34)) rfl rfl rfl rfl (Nat.le_of_ble_eq_true rfl) (Nat.le_of_ble_eq_true rfl) W.1 k1 k2)
set_option maxRecDepth 20000 in
theorem mp_tkC_1 (h : sm_H) (d : Nat) (ze zl zz : Int) : mj_path [(33, (3, 0, sb_33))] sx_sk h 5 [0] (d + 8, 33, 41, [some (.inr (.inr 77)), some (.inl (ze)), some (.inl (zl))], [.inl (zz)], [], []) = some ((d + 8, 33, 52, [some (.inr (.inr 77)), some (.inl (ze)), some (.inl (zl))], [], [.inl (9859, (12 : Int))], []), [zz ≠ ((34 : Int))]) := rfl
theorem mi_tab_tkC_1 : ∀ e ∈ ([(33, (3, 0, sb_33))] : mi_T), sc_P e.1 = some e.2 := mi_tb mi_P33 (mi_tb_e)
set_option maxRecDepth 20000 in
theorem ms_tkC_1 {h : sm_H} {d : Nat} {Q : Option mi_V → sm_H → Prop} {ze zl zz : Int} (hS : ab_Sh sx_sk h) (ok_ze : mi_in ze) (ok_zl : mi_in zl) (ok_zz : mi_in zz) (ho : (zz ≠ ((34 : Int)))) (kon : ∀ h1, me_W [.inl (9859, (12 : Int))] h h1 → Q none h1) : me_E (d + 8) 33 41 [some (.inr (.inr 77)), some (.inl (ze)), some (.inl (zl))] [.inl (zz)] h Q := mf_seg (mp_tkC_1 h d ze zl zz) (mi_tab_tkC_1) hS (mi_okL_c (trivial) (mi_okL_c (ok_ze) (mi_okL_c (ok_zl) (mi_okL_e)))) (mi_okS_cons (ok_zz) (mi_okS_e)) (mi_al (ho) (mi_al_e)) (fun h1 W _ hst => mf_ret (M := (3, 0, sb_33)) rfl rfl rfl hst (mi_al_e) (kon h1 W))
set_option maxRecDepth 20000 in
theorem mt_tkC {h : sm_H} {d : Nat} {Q : Option mi_V → sm_H → Prop} {ze zl zz : Int} (hS : ab_Sh sx_sk h) (ok_ze : mi_in ze) (ok_zl : mi_in zl) (ok_zz : mi_in zz) (k0 : (0 ≤ mi_f h 9858 ∧ mi_f h 9858 ≤ 241) → (zz = ((34 : Int))) → ((-2147483648 ≤ (mi_f h 9858) + ((1 : Int)) ∧ (mi_f h 9858) + ((1 : Int)) ≤ 2147483647)) ∧ (∀ h1, ab_Sh sx_sk h1 → mi_f h1 9859 = (8 : Int) → ab_Fr [(9859, 9860)] h h1 → ∃ Q1, me_E (d + 7) 34 0 (mi_entry 5 [.inr (.inr 52), .inl ((mi_f h 9858) + ((1 : Int))), .inl (ze)]) [] h1 Q1 ∧ ∀ w h2, (∀ x, w = some x → mi_ok x) → Q1 w h2 → me_E (d + 8) 33 74 [some (.inr (.inr 77)), some (.inl (ze)), some (.inl (zl))] (mi_back w [.inr (.inr 77)]) h2 Q)) (k1 : (zz ≠ ((34 : Int))) → (∀ h1, ab_Sh sx_sk h1 → mi_f h1 9859 = (12 : Int) → ab_Fr [(9859, 9860)] h h1 → Q none h1)) : me_E (d + 8) 33 41 [some (.inr (.inr 77)), some (.inl (ze)), some (.inl (zl))] [.inl (zz)] h Q := Or.elim (mi_em .eq (zz) (((34 : Int)))) (fun c0 => ms_tkC_0 hS ok_ze ok_zl ok_zz ⟨c0, (k0 (me_fb hS rfl) c0).1⟩ (fun h1 W => (k0 (me_fb hS rfl) c0).2 h1 W.1 (W.2.1 9859) (W.2.2.2.2.2 _ rfl))) (fun c0 => ms_tkC_1 hS ok_ze ok_zl ok_zz (c0) (fun h1 W => (k1 c0) h1 W.1 (W.2.1 9859) (W.2.2.2.2.2 _ rfl)))
set_option maxRecDepth 20000 in
theorem mp_tkD_0 (h : sm_H) (d : Nat) (ze zl zz : Int) : mj_path [(33, (3, 0, sb_33))] sx_sk h 6 [8] (d + 8, 33, 74, [some (.inr (.inr 77)), some (.inl (ze)), some (.inl (zl))], [.inl (zz), .inr (.inr 77)], [], []) = some ((d + 8, 33, 84, [some (.inr (.inr 77)), some (.inl (ze)), some (.inl (zl))], [], [.inl (9857, ze + ((1 : Int))), .inl (9860, zz)], []), [-2147483648 ≤ ze + ((1 : Int)) ∧ ze + ((1 : Int)) ≤ 2147483647, 0 ≤ (ze + ((1 : Int))) ∧ (ze + ((1 : Int))) ≤ 241]) := rfl
theorem mi_tab_tkD_0 : ∀ e ∈ ([(33, (3, 0, sb_33))] : mi_T), sc_P e.1 = some e.2 := mi_tb mi_P33 (mi_tb_e)
set_option maxRecDepth 20000 in
theorem ms_tkD_0 {h : sm_H} {d : Nat} {Q : Option mi_V → sm_H → Prop} {ze zl zz : Int} (hS : ab_Sh sx_sk h) (ok_ze : mi_in ze) (ok_zl : mi_in zl) (ok_zz : mi_in zz) (ho : (-2147483648 ≤ ze + ((1 : Int)) ∧ ze + ((1 : Int)) ≤ 2147483647) ∧ (0 ≤ (ze + ((1 : Int))) ∧ (ze + ((1 : Int))) ≤ 241)) (kon : ∀ h1, me_W [.inl (9857, ze + ((1 : Int))), .inl (9860, zz)] h h1 → Q none h1) : me_E (d + 8) 33 74 [some (.inr (.inr 77)), some (.inl (ze)), some (.inl (zl))] [.inl (zz), .inr (.inr 77)] h Q := mf_seg (mp_tkD_0 h d ze zl zz) (mi_tab_tkD_0) hS (mi_okL_c (trivial) (mi_okL_c (ok_ze) (mi_okL_c (ok_zl) (mi_okL_e)))) (mi_okS_cons (ok_zz) (mi_okS_cons (trivial) (mi_okS_e))) (mi_al (ho.1) (mi_al (ho.2) (mi_al_e))) (fun h1 W _ hst => mf_ret (M := (3, 0, sb_33)) rfl rfl rfl hst (mi_al_e) (kon h1 W))
set_option maxRecDepth 20000 in
theorem mt_tkD {h : sm_H} {d : Nat} {Q : Option mi_V → sm_H → Prop} {ze zl zz : Int} (hS : ab_Sh sx_sk h) (ok_ze : mi_in ze) (ok_zl : mi_in zl) (ok_zz : mi_in zz) (k0 : ((-2147483648 ≤ ze + ((1 : Int)) ∧ ze + ((1 : Int)) ≤ 2147483647) ∧ (0 ≤ (ze + ((1 : Int))) ∧ (ze + ((1 : Int))) ≤ 241)) ∧ (∀ h1, ab_Sh sx_sk h1 → mi_f h1 9857 = ze + ((1 : Int)) → mi_f h1 9860 = zz → ab_Fr [(9857, 9858), (9860, 9861)] h h1 → Q none h1)) : me_E (d + 8) 33 74 [some (.inr (.inr 77)), some (.inl (ze)), some (.inl (zl))] [.inl (zz), .inr (.inr 77)] h Q := ms_tkD_0 hS ok_ze ok_zl ok_zz ⟨(k0).1.1, (k0).1.2⟩ (fun h1 W => (k0).2 h1 W.1 (W.2.1 9857) (W.2.1 9860) (W.2.2.2.2.2 _ rfl))
set_option maxRecDepth 20000 in
theorem mp_tsA_0 (h : sm_H) (d : Nat) : mj_path [(35, (2, 0, sb_35))] sx_sk h 6 [8] (d + 8, 35, 0, [some (.inr (.inr 77)), none], [], [], []) = some ((d + 8, 35, 10, [some (.inr (.inr 77)), none], [.inl ((mi_f h 9858) + ((1 : Int))), .inr (.inr 52)], [], []), [-2147483648 ≤ (mi_f h 9858) + ((1 : Int)) ∧ (mi_f h 9858) + ((1 : Int)) ≤ 2147483647]) := rfl
theorem mi_tab_tsA_0 : ∀ e ∈ ([(35, (2, 0, sb_35))] : mi_T), sc_P e.1 = some e.2 := mi_tb mi_P35 (mi_tb_e)
set_option maxRecDepth 20000 in
theorem ms_tsA_0 {h : sm_H} {d : Nat} {Q : Option mi_V → sm_H → Prop} (hS : ab_Sh sx_sk h)  (ho : (-2147483648 ≤ (mi_f h 9858) + ((1 : Int)) ∧ (mi_f h 9858) + ((1 : Int)) ≤ 2147483647)) (kon : ∀ h1, me_W [] h h1 → ∃ Q1, me_E (d + 7) 20 0 (mi_entry 2 [.inr (.inr 52), .inl ((mi_f h 9858) + ((1 : Int)))]) [] h1 Q1 ∧ ∀ w h2, (∀ x, w = some x → mi_ok x) → Q1 w h2 → me_E (d + 8) 35 13 [some (.inr (.inr 77)), none] (mi_back w []) h2 Q) : me_E (d + 8) 35 0 [some (.inr (.inr 77)), none] [] h Q := mf_seg (mp_tsA_0 h d ) (mi_tab_tsA_0) hS (mi_okL_c (trivial) (mi_okL_n (mi_okL_e))) (mi_okS_e) (mi_al (ho) (mi_al_e)) (fun h1 W _ hst => let ⟨_, k1, k2⟩ := kon h1 W; mf_call (M := (2, 0, sb_35)) (M' := (2, 5, sb_20)) rfl rfl rfl rfl (Nat.le_of_ble_eq_true rfl) (Nat.le_of_ble_eq_true rfl) W.1 k1 k2)
set_option maxRecDepth 20000 in
theorem mt_tsA {h : sm_H} {d : Nat} {Q : Option mi_V → sm_H → Prop} (hS : ab_Sh sx_sk h)  (k0 : (0 ≤ mi_f h 9858 ∧ mi_f h 9858 ≤ 241) → ((-2147483648 ≤ (mi_f h 9858) + ((1 : Int)) ∧ (mi_f h 9858) + ((1 : Int)) ≤ 2147483647)) ∧ (∀ h1, ab_Sh sx_sk h1 → ab_Fr [] h h1 → ∃ Q1, me_E (d + 7) 20 0 (mi_entry 2 [.inr (.inr 52), .inl ((mi_f h 9858) + ((1 : Int)))]) [] h1 Q1 ∧ ∀ w h2, (∀ x, w = some x → mi_ok x) → Q1 w h2 → me_E (d + 8) 35 13 [some (.inr (.inr 77)), none] (mi_back w []) h2 Q)) : me_E (d + 8) 35 0 [some (.inr (.inr 77)), none] [] h Q := ms_tsA_0 hS ((k0 (me_fb hS rfl)).1) (fun h1 W => (k0 (me_fb hS rfl)).2 h1 W.1 (W.2.2.2.2.2 _ rfl))
set_option maxRecDepth 20000 in
theorem mp_tsB_0 (h : sm_H) (d : Nat) (zz : Int) : mj_path [(35, (2, 0, sb_35)), (21, (1, 4, sb_21)), (23, (1, 4, sb_23))] sx_sk h 13 [1, 1] (d + 8, 35, 13, [some (.inr (.inr 77)), none], [.inl (zz)], [], []) = some ((d + 8, 35, 48, [some (.inr (.inr 77)), some (.inl (zz))], [], [.inl (9859, (12 : Int))], []), [zz = ((32 : Int)), ((1 : Int)) = 0 ∨ ((1 : Int)) = 1, ((1 : Int)) ≠ ((0 : Int))]) := rfl
theorem mi_tab_tsB_0 : ∀ e ∈ ([(35, (2, 0, sb_35)), (21, (1, 4, sb_21)), (23, (1, 4, sb_23))] : mi_T), sc_P e.1 = some e.2 := mi_tb mi_P35 (mi_tb mi_P21 (mi_tb mi_P23 (mi_tb_e)))
set_option maxRecDepth 20000 in
theorem ms_tsB_0 {h : sm_H} {d : Nat} {Q : Option mi_V → sm_H → Prop} {zz : Int} (hS : ab_Sh sx_sk h) (ok_zz : mi_in zz) (ho : (zz = ((32 : Int))) ∧ (((1 : Int)) = 0 ∨ ((1 : Int)) = 1) ∧ (((1 : Int)) ≠ ((0 : Int)))) (kon : ∀ h1, me_W [.inl (9859, (12 : Int))] h h1 → Q none h1) : me_E (d + 8) 35 13 [some (.inr (.inr 77)), none] [.inl (zz)] h Q := mf_seg (mp_tsB_0 h d zz) (mi_tab_tsB_0) hS (mi_okL_c (trivial) (mi_okL_n (mi_okL_e))) (mi_okS_cons (ok_zz) (mi_okS_e)) (mi_al (ho.1) (mi_al (ho.2.1) (mi_al (ho.2.2) (mi_al_e)))) (fun h1 W _ hst => mf_ret (M := (2, 0, sb_35)) rfl rfl rfl hst (mi_al_e) (kon h1 W))
set_option maxRecDepth 20000 in
theorem mp_tsB_1 (h : sm_H) (d : Nat) (zz : Int) : mj_path [(35, (2, 0, sb_35)), (21, (1, 4, sb_21)), (23, (1, 4, sb_23))] sx_sk h 20 [0, 1, 0, 1, 0] (d + 8, 35, 13, [some (.inr (.inr 77)), none], [.inl (zz)], [], []) = some ((d + 8, 35, 28, [some (.inr (.inr 77)), some (.inl (zz))], [], [], []), [zz ≠ ((32 : Int)), zz ≠ ((10 : Int)), ((0 : Int)) = 0 ∨ ((0 : Int)) = 1, ((0 : Int)) = ((0 : Int)), zz < ((97 : Int)), ((0 : Int)) = 0 ∨ ((0 : Int)) = 1, ((0 : Int)) = ((0 : Int))]) := rfl
theorem mi_tab_tsB_1 : ∀ e ∈ ([(35, (2, 0, sb_35)), (21, (1, 4, sb_21)), (23, (1, 4, sb_23))] : mi_T), sc_P e.1 = some e.2 := mi_tb mi_P35 (mi_tb mi_P21 (mi_tb mi_P23 (mi_tb_e)))
set_option maxRecDepth 20000 in
theorem ms_tsB_1 {h : sm_H} {d : Nat} {Q : Option mi_V → sm_H → Prop} {zz : Int} (hS : ab_Sh sx_sk h) (ok_zz : mi_in zz) (ho : (zz ≠ ((32 : Int))) ∧ (zz ≠ ((10 : Int))) ∧ (((0 : Int)) = 0 ∨ ((0 : Int)) = 1) ∧ (((0 : Int)) = ((0 : Int))) ∧ (zz < ((97 : Int))) ∧ (((0 : Int)) = 0 ∨ ((0 : Int)) = 1) ∧ (((0 : Int)) = ((0 : Int)))) (kon : ∀ h1, me_W [] h h1 → me_E (d + 8) 35 28 [some (.inr (.inr 77)), some (.inl (zz))] [] h1 Q) : me_E (d + 8) 35 13 [some (.inr (.inr 77)), none] [.inl (zz)] h Q := mf_seg (mp_tsB_1 h d zz) (mi_tab_tsB_1) hS (mi_okL_c (trivial) (mi_okL_n (mi_okL_e))) (mi_okS_cons (ok_zz) (mi_okS_e)) (mi_al (ho.1) (mi_al (ho.2.1) (mi_al (ho.2.2.1) (mi_al (ho.2.2.2.1) (mi_al (ho.2.2.2.2.1) (mi_al (ho.2.2.2.2.2.1) (mi_al (ho.2.2.2.2.2.2) (mi_al_e)))))))) (fun h1 W _ hst => kon h1 W)
set_option maxRecDepth 20000 in
theorem mp_tsB_2 (h : sm_H) (d : Nat) (zz : Int) : mj_path [(35, (2, 0, sb_35)), (21, (1, 4, sb_21)), (23, (1, 4, sb_23))] sx_sk h 23 [0, 1, 0, 0, 1, 0] (d + 8, 35, 13, [some (.inr (.inr 77)), none], [.inl (zz)], [], []) = some ((d + 8, 35, 28, [some (.inr (.inr 77)), some (.inl (zz))], [], [], []), [zz ≠ ((32 : Int)), zz ≠ ((10 : Int)), ((0 : Int)) = 0 ∨ ((0 : Int)) = 1, ((0 : Int)) = ((0 : Int)), ((97 : Int)) ≤ zz, ((122 : Int)) < zz, ((0 : Int)) = 0 ∨ ((0 : Int)) = 1, ((0 : Int)) = ((0 : Int))]) := rfl
theorem mi_tab_tsB_2 : ∀ e ∈ ([(35, (2, 0, sb_35)), (21, (1, 4, sb_21)), (23, (1, 4, sb_23))] : mi_T), sc_P e.1 = some e.2 := mi_tb mi_P35 (mi_tb mi_P21 (mi_tb mi_P23 (mi_tb_e)))
set_option maxRecDepth 20000 in
theorem ms_tsB_2 {h : sm_H} {d : Nat} {Q : Option mi_V → sm_H → Prop} {zz : Int} (hS : ab_Sh sx_sk h) (ok_zz : mi_in zz) (ho : (zz ≠ ((32 : Int))) ∧ (zz ≠ ((10 : Int))) ∧ (((0 : Int)) = 0 ∨ ((0 : Int)) = 1) ∧ (((0 : Int)) = ((0 : Int))) ∧ (((97 : Int)) ≤ zz) ∧ (((122 : Int)) < zz) ∧ (((0 : Int)) = 0 ∨ ((0 : Int)) = 1) ∧ (((0 : Int)) = ((0 : Int)))) (kon : ∀ h1, me_W [] h h1 → me_E (d + 8) 35 28 [some (.inr (.inr 77)), some (.inl (zz))] [] h1 Q) : me_E (d + 8) 35 13 [some (.inr (.inr 77)), none] [.inl (zz)] h Q := mf_seg (mp_tsB_2 h d zz) (mi_tab_tsB_2) hS (mi_okL_c (trivial) (mi_okL_n (mi_okL_e))) (mi_okS_cons (ok_zz) (mi_okS_e)) (mi_al (ho.1) (mi_al (ho.2.1) (mi_al (ho.2.2.1) (mi_al (ho.2.2.2.1) (mi_al (ho.2.2.2.2.1) (mi_al (ho.2.2.2.2.2.1) (mi_al (ho.2.2.2.2.2.2.1) (mi_al (ho.2.2.2.2.2.2.2) (mi_al_e))))))))) (fun h1 W _ hst => kon h1 W)
set_option maxRecDepth 20000 in
theorem mp_tsB_3 (h : sm_H) (d : Nat) (zz : Int) : mj_path [(35, (2, 0, sb_35)), (21, (1, 4, sb_21)), (23, (1, 4, sb_23))] sx_sk h 27 [0, 1, 0, 0, 0, 1] (d + 8, 35, 13, [some (.inr (.inr 77)), none], [.inl (zz)], [], []) = some ((d + 8, 35, 48, [some (.inr (.inr 77)), some (.inl (zz))], [], [.inl (9859, (12 : Int))], []), [zz ≠ ((32 : Int)), zz ≠ ((10 : Int)), ((0 : Int)) = 0 ∨ ((0 : Int)) = 1, ((0 : Int)) = ((0 : Int)), ((97 : Int)) ≤ zz, zz ≤ ((122 : Int)), ((1 : Int)) = 0 ∨ ((1 : Int)) = 1, ((1 : Int)) ≠ ((0 : Int))]) := rfl
theorem mi_tab_tsB_3 : ∀ e ∈ ([(35, (2, 0, sb_35)), (21, (1, 4, sb_21)), (23, (1, 4, sb_23))] : mi_T), sc_P e.1 = some e.2 := mi_tb mi_P35 (mi_tb mi_P21 (mi_tb mi_P23 (mi_tb_e)))
set_option maxRecDepth 20000 in
theorem ms_tsB_3 {h : sm_H} {d : Nat} {Q : Option mi_V → sm_H → Prop} {zz : Int} (hS : ab_Sh sx_sk h) (ok_zz : mi_in zz) (ho : (zz ≠ ((32 : Int))) ∧ (zz ≠ ((10 : Int))) ∧ (((0 : Int)) = 0 ∨ ((0 : Int)) = 1) ∧ (((0 : Int)) = ((0 : Int))) ∧ (((97 : Int)) ≤ zz) ∧ (zz ≤ ((122 : Int))) ∧ (((1 : Int)) = 0 ∨ ((1 : Int)) = 1) ∧ (((1 : Int)) ≠ ((0 : Int)))) (kon : ∀ h1, me_W [.inl (9859, (12 : Int))] h h1 → Q none h1) : me_E (d + 8) 35 13 [some (.inr (.inr 77)), none] [.inl (zz)] h Q := mf_seg (mp_tsB_3 h d zz) (mi_tab_tsB_3) hS (mi_okL_c (trivial) (mi_okL_n (mi_okL_e))) (mi_okS_cons (ok_zz) (mi_okS_e)) (mi_al (ho.1) (mi_al (ho.2.1) (mi_al (ho.2.2.1) (mi_al (ho.2.2.2.1) (mi_al (ho.2.2.2.2.1) (mi_al (ho.2.2.2.2.2.1) (mi_al (ho.2.2.2.2.2.2.1) (mi_al (ho.2.2.2.2.2.2.2) (mi_al_e))))))))) (fun h1 W _ hst => mf_ret (M := (2, 0, sb_35)) rfl rfl rfl hst (mi_al_e) (kon h1 W))
set_option maxRecDepth 20000 in
theorem mp_tsB_4 (h : sm_H) (d : Nat) (zz : Int) : mj_path [(35, (2, 0, sb_35)), (21, (1, 4, sb_21)), (23, (1, 4, sb_23))] sx_sk h 16 [0, 0, 1] (d + 8, 35, 13, [some (.inr (.inr 77)), none], [.inl (zz)], [], []) = some ((d + 8, 35, 48, [some (.inr (.inr 77)), some (.inl (zz))], [], [.inl (9859, (12 : Int))], []), [zz ≠ ((32 : Int)), zz = ((10 : Int)), ((1 : Int)) = 0 ∨ ((1 : Int)) = 1, ((1 : Int)) ≠ ((0 : Int))]) := rfl
theorem mi_tab_tsB_4 : ∀ e ∈ ([(35, (2, 0, sb_35)), (21, (1, 4, sb_21)), (23, (1, 4, sb_23))] : mi_T), sc_P e.1 = some e.2 := mi_tb mi_P35 (mi_tb mi_P21 (mi_tb mi_P23 (mi_tb_e)))
set_option maxRecDepth 20000 in
theorem ms_tsB_4 {h : sm_H} {d : Nat} {Q : Option mi_V → sm_H → Prop} {zz : Int} (hS : ab_Sh sx_sk h) (ok_zz : mi_in zz) (ho : (zz ≠ ((32 : Int))) ∧ (zz = ((10 : Int))) ∧ (((1 : Int)) = 0 ∨ ((1 : Int)) = 1) ∧ (((1 : Int)) ≠ ((0 : Int)))) (kon : ∀ h1, me_W [.inl (9859, (12 : Int))] h h1 → Q none h1) : me_E (d + 8) 35 13 [some (.inr (.inr 77)), none] [.inl (zz)] h Q := mf_seg (mp_tsB_4 h d zz) (mi_tab_tsB_4) hS (mi_okL_c (trivial) (mi_okL_n (mi_okL_e))) (mi_okS_cons (ok_zz) (mi_okS_e)) (mi_al (ho.1) (mi_al (ho.2.1) (mi_al (ho.2.2.1) (mi_al (ho.2.2.2) (mi_al_e))))) (fun h1 W _ hst => mf_ret (M := (2, 0, sb_35)) rfl rfl rfl hst (mi_al_e) (kon h1 W))
set_option maxRecDepth 20000 in
theorem mt_tsB {h : sm_H} {d : Nat} {Q : Option mi_V → sm_H → Prop} {zz : Int} (hS : ab_Sh sx_sk h) (ok_zz : mi_in zz) (k0 : (zz = ((32 : Int))) → (∀ h1, ab_Sh sx_sk h1 → mi_f h1 9859 = (12 : Int) → ab_Fr [(9859, 9860)] h h1 → Q none h1)) (k1 : (zz ≠ ((32 : Int))) → (zz ≠ ((10 : Int))) → (zz < ((97 : Int))) → (∀ h1, ab_Sh sx_sk h1 → ab_Fr [] h h1 → me_E (d + 8) 35 28 [some (.inr (.inr 77)), some (.inl (zz))] [] h1 Q)) (k2 : (zz ≠ ((32 : Int))) → (zz ≠ ((10 : Int))) → (((97 : Int)) ≤ zz) → (((122 : Int)) < zz) → (∀ h1, ab_Sh sx_sk h1 → ab_Fr [] h h1 → me_E (d + 8) 35 28 [some (.inr (.inr 77)), some (.inl (zz))] [] h1 Q)) (k3 : (zz ≠ ((32 : Int))) → (zz ≠ ((10 : Int))) → (((97 : Int)) ≤ zz) → (zz ≤ ((122 : Int))) → (∀ h1, ab_Sh sx_sk h1 → mi_f h1 9859 = (12 : Int) → ab_Fr [(9859, 9860)] h h1 → Q none h1)) (k4 : (zz ≠ ((32 : Int))) → (zz = ((10 : Int))) → (∀ h1, ab_Sh sx_sk h1 → mi_f h1 9859 = (12 : Int) → ab_Fr [(9859, 9860)] h h1 → Q none h1)) : me_E (d + 8) 35 13 [some (.inr (.inr 77)), none] [.inl (zz)] h Q := Or.elim (mi_em .eq (zz) (((32 : Int)))) (fun c0 => ms_tsB_0 hS ok_zz ⟨c0, (by decide), (by decide)⟩ (fun h1 W => (k0 c0) h1 W.1 (W.2.1 9859) (W.2.2.2.2.2 _ rfl))) (fun c0 => Or.elim (mi_em .ne (zz) (((10 : Int)))) (fun c1 => Or.elim (mi_em .lt (zz) (((97 : Int)))) (fun c2 => ms_tsB_1 hS ok_zz ⟨c0, c1, (by decide), (by decide), c2, (by decide), (by decide)⟩ (fun h1 W => (k1 c0 c1 c2) h1 W.1 (W.2.2.2.2.2 _ rfl))) (fun c2 => Or.elim (mi_em .gt (zz) (((122 : Int)))) (fun c3 => ms_tsB_2 hS ok_zz ⟨c0, c1, (by decide), (by decide), c2, c3, (by decide), (by decide)⟩ (fun h1 W => (k2 c0 c1 c2 c3) h1 W.1 (W.2.2.2.2.2 _ rfl))) (fun c3 => ms_tsB_3 hS ok_zz ⟨c0, c1, (by decide), (by decide), c2, c3, (by decide), (by decide)⟩ (fun h1 W => (k3 c0 c1 c2 c3) h1 W.1 (W.2.1 9859) (W.2.2.2.2.2 _ rfl))))) (fun c1 => ms_tsB_4 hS ok_zz ⟨c0, c1, (by decide), (by decide)⟩ (fun h1 W => (k4 c0 c1) h1 W.1 (W.2.1 9859) (W.2.2.2.2.2 _ rfl))))
set_option maxRecDepth 20000 in
theorem mp_tsC_0 (h : sm_H) (d : Nat) (zc : Int) : mj_path [(35, (2, 0, sb_35)), (36, (1, 4, sb_36)), (37, (1, 4, sb_37)), (38, (1, 1, sb_38))] sx_sk h 32 [1, 0, 1, 1, 8] (d + 8, 35, 28, [some (.inr (.inr 77)), some (.inl (zc))], [], [], []) = some ((d + 8, 35, 73, [some (.inr (.inr 77)), some (.inl (zc))], [], [.inl (9857, (mi_f h 9858) + ((2 : Int))), .inl (9860, -zc), .inl (9859, (8 : Int))], []), [zc < ((65 : Int)), ((0 : Int)) = 0 ∨ ((0 : Int)) = 1, ((0 : Int)) = ((0 : Int)), zc < ((48 : Int)), ((0 : Int)) = 0 ∨ ((0 : Int)) = 1, ((0 : Int)) = ((0 : Int)), -2147483648 ≤ (-zc) ∧ (-zc) ≤ 2147483647, -2147483648 ≤ (mi_f h 9858) + ((2 : Int)) ∧ (mi_f h 9858) + ((2 : Int)) ≤ 2147483647, 0 ≤ ((mi_f h 9858) + ((2 : Int))) ∧ ((mi_f h 9858) + ((2 : Int))) ≤ 241]) := rfl
theorem mi_tab_tsC_0 : ∀ e ∈ ([(35, (2, 0, sb_35)), (36, (1, 4, sb_36)), (37, (1, 4, sb_37)), (38, (1, 1, sb_38))] : mi_T), sc_P e.1 = some e.2 := mi_tb mi_P35 (mi_tb mi_P36 (mi_tb mi_P37 (mi_tb mi_P38 (mi_tb_e))))
set_option maxRecDepth 20000 in
theorem ms_tsC_0 {h : sm_H} {d : Nat} {Q : Option mi_V → sm_H → Prop} {zc : Int} (hS : ab_Sh sx_sk h) (ok_zc : mi_in zc) (ho : (zc < ((65 : Int))) ∧ (((0 : Int)) = 0 ∨ ((0 : Int)) = 1) ∧ (((0 : Int)) = ((0 : Int))) ∧ (zc < ((48 : Int))) ∧ (((0 : Int)) = 0 ∨ ((0 : Int)) = 1) ∧ (((0 : Int)) = ((0 : Int))) ∧ (-2147483648 ≤ (-zc) ∧ (-zc) ≤ 2147483647) ∧ (-2147483648 ≤ (mi_f h 9858) + ((2 : Int)) ∧ (mi_f h 9858) + ((2 : Int)) ≤ 2147483647) ∧ (0 ≤ ((mi_f h 9858) + ((2 : Int))) ∧ ((mi_f h 9858) + ((2 : Int))) ≤ 241)) (kon : ∀ h1, me_W [.inl (9857, (mi_f h 9858) + ((2 : Int))), .inl (9860, -zc), .inl (9859, (8 : Int))] h h1 → Q none h1) : me_E (d + 8) 35 28 [some (.inr (.inr 77)), some (.inl (zc))] [] h Q := mf_seg (mp_tsC_0 h d zc) (mi_tab_tsC_0) hS (mi_okL_c (trivial) (mi_okL_c (ok_zc) (mi_okL_e))) (mi_okS_e) (mi_al (ho.1) (mi_al (ho.2.1) (mi_al (ho.2.2.1) (mi_al (ho.2.2.2.1) (mi_al (ho.2.2.2.2.1) (mi_al (ho.2.2.2.2.2.1) (mi_al (ho.2.2.2.2.2.2.1) (mi_al (ho.2.2.2.2.2.2.2.1) (mi_al (ho.2.2.2.2.2.2.2.2) (mi_al_e)))))))))) (fun h1 W _ hst => mf_ret (M := (2, 0, sb_35)) rfl rfl rfl hst (mi_al_e) (kon h1 W))
set_option maxRecDepth 20000 in
theorem mp_tsC_1 (h : sm_H) (d : Nat) (zc : Int) : mj_path [(35, (2, 0, sb_35)), (36, (1, 4, sb_36)), (37, (1, 4, sb_37)), (38, (1, 1, sb_38))] sx_sk h 35 [1, 0, 0, 1, 1, 8] (d + 8, 35, 28, [some (.inr (.inr 77)), some (.inl (zc))], [], [], []) = some ((d + 8, 35, 73, [some (.inr (.inr 77)), some (.inl (zc))], [], [.inl (9857, (mi_f h 9858) + ((2 : Int))), .inl (9860, -zc), .inl (9859, (8 : Int))], []), [zc < ((65 : Int)), ((0 : Int)) = 0 ∨ ((0 : Int)) = 1, ((0 : Int)) = ((0 : Int)), ((48 : Int)) ≤ zc, ((57 : Int)) < zc, ((0 : Int)) = 0 ∨ ((0 : Int)) = 1, ((0 : Int)) = ((0 : Int)), -2147483648 ≤ (-zc) ∧ (-zc) ≤ 2147483647, -2147483648 ≤ (mi_f h 9858) + ((2 : Int)) ∧ (mi_f h 9858) + ((2 : Int)) ≤ 2147483647, 0 ≤ ((mi_f h 9858) + ((2 : Int))) ∧ ((mi_f h 9858) + ((2 : Int))) ≤ 241]) := rfl
theorem mi_tab_tsC_1 : ∀ e ∈ ([(35, (2, 0, sb_35)), (36, (1, 4, sb_36)), (37, (1, 4, sb_37)), (38, (1, 1, sb_38))] : mi_T), sc_P e.1 = some e.2 := mi_tb mi_P35 (mi_tb mi_P36 (mi_tb mi_P37 (mi_tb mi_P38 (mi_tb_e))))
set_option maxRecDepth 20000 in
theorem ms_tsC_1 {h : sm_H} {d : Nat} {Q : Option mi_V → sm_H → Prop} {zc : Int} (hS : ab_Sh sx_sk h) (ok_zc : mi_in zc) (ho : (zc < ((65 : Int))) ∧ (((0 : Int)) = 0 ∨ ((0 : Int)) = 1) ∧ (((0 : Int)) = ((0 : Int))) ∧ (((48 : Int)) ≤ zc) ∧ (((57 : Int)) < zc) ∧ (((0 : Int)) = 0 ∨ ((0 : Int)) = 1) ∧ (((0 : Int)) = ((0 : Int))) ∧ (-2147483648 ≤ (-zc) ∧ (-zc) ≤ 2147483647) ∧ (-2147483648 ≤ (mi_f h 9858) + ((2 : Int)) ∧ (mi_f h 9858) + ((2 : Int)) ≤ 2147483647) ∧ (0 ≤ ((mi_f h 9858) + ((2 : Int))) ∧ ((mi_f h 9858) + ((2 : Int))) ≤ 241)) (kon : ∀ h1, me_W [.inl (9857, (mi_f h 9858) + ((2 : Int))), .inl (9860, -zc), .inl (9859, (8 : Int))] h h1 → Q none h1) : me_E (d + 8) 35 28 [some (.inr (.inr 77)), some (.inl (zc))] [] h Q := mf_seg (mp_tsC_1 h d zc) (mi_tab_tsC_1) hS (mi_okL_c (trivial) (mi_okL_c (ok_zc) (mi_okL_e))) (mi_okS_e) (mi_al (ho.1) (mi_al (ho.2.1) (mi_al (ho.2.2.1) (mi_al (ho.2.2.2.1) (mi_al (ho.2.2.2.2.1) (mi_al (ho.2.2.2.2.2.1) (mi_al (ho.2.2.2.2.2.2.1) (mi_al (ho.2.2.2.2.2.2.2.1) (mi_al (ho.2.2.2.2.2.2.2.2.1) (mi_al (ho.2.2.2.2.2.2.2.2.2) (mi_al_e))))))))))) (fun h1 W _ hst => mf_ret (M := (2, 0, sb_35)) rfl rfl rfl hst (mi_al_e) (kon h1 W))
set_option maxRecDepth 20000 in
theorem mp_tsC_2 (h : sm_H) (d : Nat) (zc : Int) : mj_path [(35, (2, 0, sb_35)), (36, (1, 4, sb_36)), (37, (1, 4, sb_37)), (38, (1, 1, sb_38))] sx_sk h 23 [1, 0, 0, 0, 0] (d + 8, 35, 28, [some (.inr (.inr 77)), some (.inl (zc))], [], [], []) = some ((d + 8, 35, 48, [some (.inr (.inr 77)), some (.inl (zc))], [], [.inl (9859, (12 : Int))], []), [zc < ((65 : Int)), ((0 : Int)) = 0 ∨ ((0 : Int)) = 1, ((0 : Int)) = ((0 : Int)), ((48 : Int)) ≤ zc, zc ≤ ((57 : Int)), ((1 : Int)) = 0 ∨ ((1 : Int)) = 1, ((1 : Int)) ≠ ((0 : Int))]) := rfl
theorem mi_tab_tsC_2 : ∀ e ∈ ([(35, (2, 0, sb_35)), (36, (1, 4, sb_36)), (37, (1, 4, sb_37)), (38, (1, 1, sb_38))] : mi_T), sc_P e.1 = some e.2 := mi_tb mi_P35 (mi_tb mi_P36 (mi_tb mi_P37 (mi_tb mi_P38 (mi_tb_e))))
set_option maxRecDepth 20000 in
theorem ms_tsC_2 {h : sm_H} {d : Nat} {Q : Option mi_V → sm_H → Prop} {zc : Int} (hS : ab_Sh sx_sk h) (ok_zc : mi_in zc) (ho : (zc < ((65 : Int))) ∧ (((0 : Int)) = 0 ∨ ((0 : Int)) = 1) ∧ (((0 : Int)) = ((0 : Int))) ∧ (((48 : Int)) ≤ zc) ∧ (zc ≤ ((57 : Int))) ∧ (((1 : Int)) = 0 ∨ ((1 : Int)) = 1) ∧ (((1 : Int)) ≠ ((0 : Int)))) (kon : ∀ h1, me_W [.inl (9859, (12 : Int))] h h1 → Q none h1) : me_E (d + 8) 35 28 [some (.inr (.inr 77)), some (.inl (zc))] [] h Q := mf_seg (mp_tsC_2 h d zc) (mi_tab_tsC_2) hS (mi_okL_c (trivial) (mi_okL_c (ok_zc) (mi_okL_e))) (mi_okS_e) (mi_al (ho.1) (mi_al (ho.2.1) (mi_al (ho.2.2.1) (mi_al (ho.2.2.2.1) (mi_al (ho.2.2.2.2.1) (mi_al (ho.2.2.2.2.2.1) (mi_al (ho.2.2.2.2.2.2) (mi_al_e)))))))) (fun h1 W _ hst => mf_ret (M := (2, 0, sb_35)) rfl rfl rfl hst (mi_al_e) (kon h1 W))
set_option maxRecDepth 20000 in
theorem mp_tsC_3 (h : sm_H) (d : Nat) (zc : Int) : mj_path [(35, (2, 0, sb_35)), (36, (1, 4, sb_36)), (37, (1, 4, sb_37)), (38, (1, 1, sb_38))] sx_sk h 35 [0, 1, 0, 1, 1, 8] (d + 8, 35, 28, [some (.inr (.inr 77)), some (.inl (zc))], [], [], []) = some ((d + 8, 35, 73, [some (.inr (.inr 77)), some (.inl (zc))], [], [.inl (9857, (mi_f h 9858) + ((2 : Int))), .inl (9860, -zc), .inl (9859, (8 : Int))], []), [((65 : Int)) ≤ zc, ((90 : Int)) < zc, ((0 : Int)) = 0 ∨ ((0 : Int)) = 1, ((0 : Int)) = ((0 : Int)), zc < ((48 : Int)), ((0 : Int)) = 0 ∨ ((0 : Int)) = 1, ((0 : Int)) = ((0 : Int)), -2147483648 ≤ (-zc) ∧ (-zc) ≤ 2147483647, -2147483648 ≤ (mi_f h 9858) + ((2 : Int)) ∧ (mi_f h 9858) + ((2 : Int)) ≤ 2147483647, 0 ≤ ((mi_f h 9858) + ((2 : Int))) ∧ ((mi_f h 9858) + ((2 : Int))) ≤ 241]) := rfl
theorem mi_tab_tsC_3 : ∀ e ∈ ([(35, (2, 0, sb_35)), (36, (1, 4, sb_36)), (37, (1, 4, sb_37)), (38, (1, 1, sb_38))] : mi_T), sc_P e.1 = some e.2 := mi_tb mi_P35 (mi_tb mi_P36 (mi_tb mi_P37 (mi_tb mi_P38 (mi_tb_e))))
set_option maxRecDepth 20000 in
theorem ms_tsC_3 {h : sm_H} {d : Nat} {Q : Option mi_V → sm_H → Prop} {zc : Int} (hS : ab_Sh sx_sk h) (ok_zc : mi_in zc) (ho : (((65 : Int)) ≤ zc) ∧ (((90 : Int)) < zc) ∧ (((0 : Int)) = 0 ∨ ((0 : Int)) = 1) ∧ (((0 : Int)) = ((0 : Int))) ∧ (zc < ((48 : Int))) ∧ (((0 : Int)) = 0 ∨ ((0 : Int)) = 1) ∧ (((0 : Int)) = ((0 : Int))) ∧ (-2147483648 ≤ (-zc) ∧ (-zc) ≤ 2147483647) ∧ (-2147483648 ≤ (mi_f h 9858) + ((2 : Int)) ∧ (mi_f h 9858) + ((2 : Int)) ≤ 2147483647) ∧ (0 ≤ ((mi_f h 9858) + ((2 : Int))) ∧ ((mi_f h 9858) + ((2 : Int))) ≤ 241)) (kon : ∀ h1, me_W [.inl (9857, (mi_f h 9858) + ((2 : Int))), .inl (9860, -zc), .inl (9859, (8 : Int))] h h1 → Q none h1) : me_E (d + 8) 35 28 [some (.inr (.inr 77)), some (.inl (zc))] [] h Q := mf_seg (mp_tsC_3 h d zc) (mi_tab_tsC_3) hS (mi_okL_c (trivial) (mi_okL_c (ok_zc) (mi_okL_e))) (mi_okS_e) (mi_al (ho.1) (mi_al (ho.2.1) (mi_al (ho.2.2.1) (mi_al (ho.2.2.2.1) (mi_al (ho.2.2.2.2.1) (mi_al (ho.2.2.2.2.2.1) (mi_al (ho.2.2.2.2.2.2.1) (mi_al (ho.2.2.2.2.2.2.2.1) (mi_al (ho.2.2.2.2.2.2.2.2.1) (mi_al (ho.2.2.2.2.2.2.2.2.2) (mi_al_e))))))))))) (fun h1 W _ hst => mf_ret (M := (2, 0, sb_35)) rfl rfl rfl hst (mi_al_e) (kon h1 W))
set_option maxRecDepth 20000 in
theorem mp_tsC_4 (h : sm_H) (d : Nat) (zc : Int) : mj_path [(35, (2, 0, sb_35)), (36, (1, 4, sb_36)), (37, (1, 4, sb_37)), (38, (1, 1, sb_38))] sx_sk h 38 [0, 1, 0, 0, 1, 1, 8] (d + 8, 35, 28, [some (.inr (.inr 77)), some (.inl (zc))], [], [], []) = some ((d + 8, 35, 73, [some (.inr (.inr 77)), some (.inl (zc))], [], [.inl (9857, (mi_f h 9858) + ((2 : Int))), .inl (9860, -zc), .inl (9859, (8 : Int))], []), [((65 : Int)) ≤ zc, ((90 : Int)) < zc, ((0 : Int)) = 0 ∨ ((0 : Int)) = 1, ((0 : Int)) = ((0 : Int)), ((48 : Int)) ≤ zc, ((57 : Int)) < zc, ((0 : Int)) = 0 ∨ ((0 : Int)) = 1, ((0 : Int)) = ((0 : Int)), -2147483648 ≤ (-zc) ∧ (-zc) ≤ 2147483647, -2147483648 ≤ (mi_f h 9858) + ((2 : Int)) ∧ (mi_f h 9858) + ((2 : Int)) ≤ 2147483647, 0 ≤ ((mi_f h 9858) + ((2 : Int))) ∧ ((mi_f h 9858) + ((2 : Int))) ≤ 241]) := rfl
theorem mi_tab_tsC_4 : ∀ e ∈ ([(35, (2, 0, sb_35)), (36, (1, 4, sb_36)), (37, (1, 4, sb_37)), (38, (1, 1, sb_38))] : mi_T), sc_P e.1 = some e.2 := mi_tb mi_P35 (mi_tb mi_P36 (mi_tb mi_P37 (mi_tb mi_P38 (mi_tb_e))))
set_option maxRecDepth 20000 in
theorem ms_tsC_4 {h : sm_H} {d : Nat} {Q : Option mi_V → sm_H → Prop} {zc : Int} (hS : ab_Sh sx_sk h) (ok_zc : mi_in zc) (ho : (((65 : Int)) ≤ zc) ∧ (((90 : Int)) < zc) ∧ (((0 : Int)) = 0 ∨ ((0 : Int)) = 1) ∧ (((0 : Int)) = ((0 : Int))) ∧ (((48 : Int)) ≤ zc) ∧ (((57 : Int)) < zc) ∧ (((0 : Int)) = 0 ∨ ((0 : Int)) = 1) ∧ (((0 : Int)) = ((0 : Int))) ∧ (-2147483648 ≤ (-zc) ∧ (-zc) ≤ 2147483647) ∧ (-2147483648 ≤ (mi_f h 9858) + ((2 : Int)) ∧ (mi_f h 9858) + ((2 : Int)) ≤ 2147483647) ∧ (0 ≤ ((mi_f h 9858) + ((2 : Int))) ∧ ((mi_f h 9858) + ((2 : Int))) ≤ 241)) (kon : ∀ h1, me_W [.inl (9857, (mi_f h 9858) + ((2 : Int))), .inl (9860, -zc), .inl (9859, (8 : Int))] h h1 → Q none h1) : me_E (d + 8) 35 28 [some (.inr (.inr 77)), some (.inl (zc))] [] h Q := mf_seg (mp_tsC_4 h d zc) (mi_tab_tsC_4) hS (mi_okL_c (trivial) (mi_okL_c (ok_zc) (mi_okL_e))) (mi_okS_e) (mi_al (ho.1) (mi_al (ho.2.1) (mi_al (ho.2.2.1) (mi_al (ho.2.2.2.1) (mi_al (ho.2.2.2.2.1) (mi_al (ho.2.2.2.2.2.1) (mi_al (ho.2.2.2.2.2.2.1) (mi_al (ho.2.2.2.2.2.2.2.1) (mi_al (ho.2.2.2.2.2.2.2.2.1) (mi_al (ho.2.2.2.2.2.2.2.2.2.1) (mi_al (ho.2.2.2.2.2.2.2.2.2.2) (mi_al_e)))))))))))) (fun h1 W _ hst => mf_ret (M := (2, 0, sb_35)) rfl rfl rfl hst (mi_al_e) (kon h1 W))
set_option maxRecDepth 20000 in
theorem mp_tsC_5 (h : sm_H) (d : Nat) (zc : Int) : mj_path [(35, (2, 0, sb_35)), (36, (1, 4, sb_36)), (37, (1, 4, sb_37)), (38, (1, 1, sb_38))] sx_sk h 26 [0, 1, 0, 0, 0, 0] (d + 8, 35, 28, [some (.inr (.inr 77)), some (.inl (zc))], [], [], []) = some ((d + 8, 35, 48, [some (.inr (.inr 77)), some (.inl (zc))], [], [.inl (9859, (12 : Int))], []), [((65 : Int)) ≤ zc, ((90 : Int)) < zc, ((0 : Int)) = 0 ∨ ((0 : Int)) = 1, ((0 : Int)) = ((0 : Int)), ((48 : Int)) ≤ zc, zc ≤ ((57 : Int)), ((1 : Int)) = 0 ∨ ((1 : Int)) = 1, ((1 : Int)) ≠ ((0 : Int))]) := rfl
theorem mi_tab_tsC_5 : ∀ e ∈ ([(35, (2, 0, sb_35)), (36, (1, 4, sb_36)), (37, (1, 4, sb_37)), (38, (1, 1, sb_38))] : mi_T), sc_P e.1 = some e.2 := mi_tb mi_P35 (mi_tb mi_P36 (mi_tb mi_P37 (mi_tb mi_P38 (mi_tb_e))))
set_option maxRecDepth 20000 in
theorem ms_tsC_5 {h : sm_H} {d : Nat} {Q : Option mi_V → sm_H → Prop} {zc : Int} (hS : ab_Sh sx_sk h) (ok_zc : mi_in zc) (ho : (((65 : Int)) ≤ zc) ∧ (((90 : Int)) < zc) ∧ (((0 : Int)) = 0 ∨ ((0 : Int)) = 1) ∧ (((0 : Int)) = ((0 : Int))) ∧ (((48 : Int)) ≤ zc) ∧ (zc ≤ ((57 : Int))) ∧ (((1 : Int)) = 0 ∨ ((1 : Int)) = 1) ∧ (((1 : Int)) ≠ ((0 : Int)))) (kon : ∀ h1, me_W [.inl (9859, (12 : Int))] h h1 → Q none h1) : me_E (d + 8) 35 28 [some (.inr (.inr 77)), some (.inl (zc))] [] h Q := mf_seg (mp_tsC_5 h d zc) (mi_tab_tsC_5) hS (mi_okL_c (trivial) (mi_okL_c (ok_zc) (mi_okL_e))) (mi_okS_e) (mi_al (ho.1) (mi_al (ho.2.1) (mi_al (ho.2.2.1) (mi_al (ho.2.2.2.1) (mi_al (ho.2.2.2.2.1) (mi_al (ho.2.2.2.2.2.1) (mi_al (ho.2.2.2.2.2.2.1) (mi_al (ho.2.2.2.2.2.2.2) (mi_al_e))))))))) (fun h1 W _ hst => mf_ret (M := (2, 0, sb_35)) rfl rfl rfl hst (mi_al_e) (kon h1 W))
set_option maxRecDepth 20000 in
theorem mp_tsC_6 (h : sm_H) (d : Nat) (zc : Int) : mj_path [(35, (2, 0, sb_35)), (36, (1, 4, sb_36)), (37, (1, 4, sb_37)), (38, (1, 1, sb_38))] sx_sk h 15 [0, 0, 1] (d + 8, 35, 28, [some (.inr (.inr 77)), some (.inl (zc))], [], [], []) = some ((d + 8, 35, 48, [some (.inr (.inr 77)), some (.inl (zc))], [], [.inl (9859, (12 : Int))], []), [((65 : Int)) ≤ zc, zc ≤ ((90 : Int)), ((1 : Int)) = 0 ∨ ((1 : Int)) = 1, ((1 : Int)) ≠ ((0 : Int))]) := rfl
theorem mi_tab_tsC_6 : ∀ e ∈ ([(35, (2, 0, sb_35)), (36, (1, 4, sb_36)), (37, (1, 4, sb_37)), (38, (1, 1, sb_38))] : mi_T), sc_P e.1 = some e.2 := mi_tb mi_P35 (mi_tb mi_P36 (mi_tb mi_P37 (mi_tb mi_P38 (mi_tb_e))))
set_option maxRecDepth 20000 in
theorem ms_tsC_6 {h : sm_H} {d : Nat} {Q : Option mi_V → sm_H → Prop} {zc : Int} (hS : ab_Sh sx_sk h) (ok_zc : mi_in zc) (ho : (((65 : Int)) ≤ zc) ∧ (zc ≤ ((90 : Int))) ∧ (((1 : Int)) = 0 ∨ ((1 : Int)) = 1) ∧ (((1 : Int)) ≠ ((0 : Int)))) (kon : ∀ h1, me_W [.inl (9859, (12 : Int))] h h1 → Q none h1) : me_E (d + 8) 35 28 [some (.inr (.inr 77)), some (.inl (zc))] [] h Q := mf_seg (mp_tsC_6 h d zc) (mi_tab_tsC_6) hS (mi_okL_c (trivial) (mi_okL_c (ok_zc) (mi_okL_e))) (mi_okS_e) (mi_al (ho.1) (mi_al (ho.2.1) (mi_al (ho.2.2.1) (mi_al (ho.2.2.2) (mi_al_e))))) (fun h1 W _ hst => mf_ret (M := (2, 0, sb_35)) rfl rfl rfl hst (mi_al_e) (kon h1 W))
set_option maxRecDepth 20000 in
theorem mt_tsC {h : sm_H} {d : Nat} {Q : Option mi_V → sm_H → Prop} {zc : Int} (hS : ab_Sh sx_sk h) (ok_zc : mi_in zc) (k0 : (0 ≤ mi_f h 9858 ∧ mi_f h 9858 ≤ 241) → (zc < ((65 : Int))) → (zc < ((48 : Int))) → ((-2147483648 ≤ (-zc) ∧ (-zc) ≤ 2147483647) ∧ (-2147483648 ≤ (mi_f h 9858) + ((2 : Int)) ∧ (mi_f h 9858) + ((2 : Int)) ≤ 2147483647) ∧ (0 ≤ ((mi_f h 9858) + ((2 : Int))) ∧ ((mi_f h 9858) + ((2 : Int))) ≤ 241)) ∧ (∀ h1, ab_Sh sx_sk h1 → mi_f h1 9857 = (mi_f h 9858) + ((2 : Int)) → mi_f h1 9859 = (8 : Int) → mi_f h1 9860 = -zc → ab_Fr [(9857, 9858), (9859, 9861)] h h1 → Q none h1)) (k1 : (0 ≤ mi_f h 9858 ∧ mi_f h 9858 ≤ 241) → (zc < ((65 : Int))) → (((48 : Int)) ≤ zc) → (((57 : Int)) < zc) → ((-2147483648 ≤ (-zc) ∧ (-zc) ≤ 2147483647) ∧ (-2147483648 ≤ (mi_f h 9858) + ((2 : Int)) ∧ (mi_f h 9858) + ((2 : Int)) ≤ 2147483647) ∧ (0 ≤ ((mi_f h 9858) + ((2 : Int))) ∧ ((mi_f h 9858) + ((2 : Int))) ≤ 241)) ∧ (∀ h1, ab_Sh sx_sk h1 → mi_f h1 9857 = (mi_f h 9858) + ((2 : Int)) → mi_f h1 9859 = (8 : Int) → mi_f h1 9860 = -zc → ab_Fr [(9857, 9858), (9859, 9861)] h h1 → Q none h1)) (k2 : (zc < ((65 : Int))) → (((48 : Int)) ≤ zc) → (zc ≤ ((57 : Int))) → (∀ h1, ab_Sh sx_sk h1 → mi_f h1 9859 = (12 : Int) → ab_Fr [(9859, 9860)] h h1 → Q none h1)) (k3 : (0 ≤ mi_f h 9858 ∧ mi_f h 9858 ≤ 241) → (((65 : Int)) ≤ zc) → (((90 : Int)) < zc) → (zc < ((48 : Int))) → ((-2147483648 ≤ (-zc) ∧ (-zc) ≤ 2147483647) ∧ (-2147483648 ≤ (mi_f h 9858) + ((2 : Int)) ∧ (mi_f h 9858) + ((2 : Int)) ≤ 2147483647) ∧ (0 ≤ ((mi_f h 9858) + ((2 : Int))) ∧ ((mi_f h 9858) + ((2 : Int))) ≤ 241)) ∧ (∀ h1, ab_Sh sx_sk h1 → mi_f h1 9857 = (mi_f h 9858) + ((2 : Int)) → mi_f h1 9859 = (8 : Int) → mi_f h1 9860 = -zc → ab_Fr [(9857, 9858), (9859, 9861)] h h1 → Q none h1)) (k4 : (0 ≤ mi_f h 9858 ∧ mi_f h 9858 ≤ 241) → (((65 : Int)) ≤ zc) → (((90 : Int)) < zc) → (((48 : Int)) ≤ zc) → (((57 : Int)) < zc) → ((-2147483648 ≤ (-zc) ∧ (-zc) ≤ 2147483647) ∧ (-2147483648 ≤ (mi_f h 9858) + ((2 : Int)) ∧ (mi_f h 9858) + ((2 : Int)) ≤ 2147483647) ∧ (0 ≤ ((mi_f h 9858) + ((2 : Int))) ∧ ((mi_f h 9858) + ((2 : Int))) ≤ 241)) ∧ (∀ h1, ab_Sh sx_sk h1 → mi_f h1 9857 = (mi_f h 9858) + ((2 : Int)) → mi_f h1 9859 = (8 : Int) → mi_f h1 9860 = -zc → ab_Fr [(9857, 9858), (9859, 9861)] h h1 → Q none h1)) (k5 : (((65 : Int)) ≤ zc) → (((90 : Int)) < zc) → (((48 : Int)) ≤ zc) → (zc ≤ ((57 : Int))) → (∀ h1, ab_Sh sx_sk h1 → mi_f h1 9859 = (12 : Int) → ab_Fr [(9859, 9860)] h h1 → Q none h1)) (k6 : (((65 : Int)) ≤ zc) → (zc ≤ ((90 : Int))) → (∀ h1, ab_Sh sx_sk h1 → mi_f h1 9859 = (12 : Int) → ab_Fr [(9859, 9860)] h h1 → Q none h1)) : me_E (d + 8) 35 28 [some (.inr (.inr 77)), some (.inl (zc))] [] h Q := Or.elim (mi_em .lt (zc) (((65 : Int)))) (fun c0 => Or.elim (mi_em .lt (zc) (((48 : Int)))) (fun c1 => ms_tsC_0 hS ok_zc ⟨c0, (by decide), (by decide), c1, (by decide), (by decide), (k0 (me_fb hS rfl) c0 c1).1.1, (k0 (me_fb hS rfl) c0 c1).1.2.1, (k0 (me_fb hS rfl) c0 c1).1.2.2⟩ (fun h1 W => (k0 (me_fb hS rfl) c0 c1).2 h1 W.1 (W.2.1 9857) (W.2.1 9859) (W.2.1 9860) (W.2.2.2.2.2 _ rfl))) (fun c1 => Or.elim (mi_em .gt (zc) (((57 : Int)))) (fun c2 => ms_tsC_1 hS ok_zc ⟨c0, (by decide), (by decide), c1, c2, (by decide), (by decide), (k1 (me_fb hS rfl) c0 c1 c2).1.1, (k1 (me_fb hS rfl) c0 c1 c2).1.2.1, (k1 (me_fb hS rfl) c0 c1 c2).1.2.2⟩ (fun h1 W => (k1 (me_fb hS rfl) c0 c1 c2).2 h1 W.1 (W.2.1 9857) (W.2.1 9859) (W.2.1 9860) (W.2.2.2.2.2 _ rfl))) (fun c2 => ms_tsC_2 hS ok_zc ⟨c0, (by decide), (by decide), c1, c2, (by decide), (by decide)⟩ (fun h1 W => (k2 c0 c1 c2) h1 W.1 (W.2.1 9859) (W.2.2.2.2.2 _ rfl))))) (fun c0 => Or.elim (mi_em .gt (zc) (((90 : Int)))) (fun c1 => Or.elim (mi_em .lt (zc) (((48 : Int)))) (fun c2 => ms_tsC_3 hS ok_zc ⟨c0, c1, (by decide), (by decide), c2, (by decide), (by decide), (k3 (me_fb hS rfl) c0 c1 c2).1.1, (k3 (me_fb hS rfl) c0 c1 c2).1.2.1, (k3 (me_fb hS rfl) c0 c1 c2).1.2.2⟩ (fun h1 W => (k3 (me_fb hS rfl) c0 c1 c2).2 h1 W.1 (W.2.1 9857) (W.2.1 9859) (W.2.1 9860) (W.2.2.2.2.2 _ rfl))) (fun c2 => Or.elim (mi_em .gt (zc) (((57 : Int)))) (fun c3 => ms_tsC_4 hS ok_zc ⟨c0, c1, (by decide), (by decide), c2, c3, (by decide), (by decide), (k4 (me_fb hS rfl) c0 c1 c2 c3).1.1, (k4 (me_fb hS rfl) c0 c1 c2 c3).1.2.1, (k4 (me_fb hS rfl) c0 c1 c2 c3).1.2.2⟩ (fun h1 W => (k4 (me_fb hS rfl) c0 c1 c2 c3).2 h1 W.1 (W.2.1 9857) (W.2.1 9859) (W.2.1 9860) (W.2.2.2.2.2 _ rfl))) (fun c3 => ms_tsC_5 hS ok_zc ⟨c0, c1, (by decide), (by decide), c2, c3, (by decide), (by decide)⟩ (fun h1 W => (k5 c0 c1 c2 c3) h1 W.1 (W.2.1 9859) (W.2.2.2.2.2 _ rfl))))) (fun c1 => ms_tsC_6 hS ok_zc ⟨c0, c1, (by decide), (by decide)⟩ (fun h1 W => (k6 c0 c1) h1 W.1 (W.2.1 9859) (W.2.2.2.2.2 _ rfl))))
set_option maxRecDepth 20000 in
theorem mp_tcA_0 (h : sm_H) (d : Nat) (zc : Int) : mj_path [(39, (2, 0, sb_39)), (36, (1, 4, sb_36)), (37, (1, 4, sb_37))] sx_sk h 27 [8, 1, 1, 1, 1, 1] (d + 9, 39, 0, [some (.inr (.inr 77)), some (.inl (zc))], [], [], []) = some ((d + 9, 39, 73, [some (.inr (.inr 77)), some (.inl (zc))], [.inl (zc), .inr (.inr 8)], [.inl (9857, (mi_f h 9858) + ((1 : Int)))], []), [-2147483648 ≤ (mi_f h 9858) + ((1 : Int)) ∧ (mi_f h 9858) + ((1 : Int)) ≤ 2147483647, 0 ≤ ((mi_f h 9858) + ((1 : Int))) ∧ ((mi_f h 9858) + ((1 : Int))) ≤ 241, zc < ((65 : Int)), ((0 : Int)) = 0 ∨ ((0 : Int)) = 1, ((0 : Int)) = ((0 : Int)), zc < ((48 : Int)), ((0 : Int)) = 0 ∨ ((0 : Int)) = 1, ((0 : Int)) = ((0 : Int)), zc ≠ ((40 : Int))]) := rfl
theorem mi_tab_tcA_0 : ∀ e ∈ ([(39, (2, 0, sb_39)), (36, (1, 4, sb_36)), (37, (1, 4, sb_37))] : mi_T), sc_P e.1 = some e.2 := mi_tb mi_P39 (mi_tb mi_P36 (mi_tb mi_P37 (mi_tb_e)))
set_option maxRecDepth 20000 in
theorem ms_tcA_0 {h : sm_H} {d : Nat} {Q : Option mi_V → sm_H → Prop} {zc : Int} (hS : ab_Sh sx_sk h) (ok_zc : mi_in zc) (ho : (-2147483648 ≤ (mi_f h 9858) + ((1 : Int)) ∧ (mi_f h 9858) + ((1 : Int)) ≤ 2147483647) ∧ (0 ≤ ((mi_f h 9858) + ((1 : Int))) ∧ ((mi_f h 9858) + ((1 : Int))) ≤ 241) ∧ (zc < ((65 : Int))) ∧ (((0 : Int)) = 0 ∨ ((0 : Int)) = 1) ∧ (((0 : Int)) = ((0 : Int))) ∧ (zc < ((48 : Int))) ∧ (((0 : Int)) = 0 ∨ ((0 : Int)) = 1) ∧ (((0 : Int)) = ((0 : Int))) ∧ (zc ≠ ((40 : Int)))) (kon : ∀ h1, me_W [.inl (9857, (mi_f h 9858) + ((1 : Int)))] h h1 → ∃ Q1, me_E (d + 8) 40 0 (mi_entry 2 [.inr (.inr 8), .inl (zc)]) [] h1 Q1 ∧ ∀ w h2, (∀ x, w = some x → mi_ok x) → Q1 w h2 → me_E (d + 9) 39 76 [some (.inr (.inr 77)), some (.inl (zc))] (mi_back w []) h2 Q) : me_E (d + 9) 39 0 [some (.inr (.inr 77)), some (.inl (zc))] [] h Q := mf_seg (mp_tcA_0 h d zc) (mi_tab_tcA_0) hS (mi_okL_c (trivial) (mi_okL_c (ok_zc) (mi_okL_e))) (mi_okS_e) (mi_al (ho.1) (mi_al (ho.2.1) (mi_al (ho.2.2.1) (mi_al (ho.2.2.2.1) (mi_al (ho.2.2.2.2.1) (mi_al (ho.2.2.2.2.2.1) (mi_al (ho.2.2.2.2.2.2.1) (mi_al (ho.2.2.2.2.2.2.2.1) (mi_al (ho.2.2.2.2.2.2.2.2) (mi_al_e)))))))))) (fun h1 W _ hst => let ⟨_, k1, k2⟩ := kon h1 W; mf_call (M := (2, 0, sb_39)) (M' := (2, 1, sb_40)) rfl rfl rfl rfl (Nat.le_of_ble_eq_true rfl) (Nat.le_of_ble_eq_true rfl) W.1 k1 k2)
set_option maxRecDepth 20000 in
theorem mp_tcA_1 (h : sm_H) (d : Nat) (zc : Int) : mj_path [(39, (2, 0, sb_39)), (36, (1, 4, sb_36)), (37, (1, 4, sb_37))] sx_sk h 29 [8, 1, 1, 1, 1, 0] (d + 9, 39, 0, [some (.inr (.inr 77)), some (.inl (zc))], [], [], []) = some ((d + 9, 39, 93, [some (.inr (.inr 77)), some (.inl (zc))], [], [.inl (9859, (10 : Int)), .inl (9857, (mi_f h 9858) + ((1 : Int)))], []), [-2147483648 ≤ (mi_f h 9858) + ((1 : Int)) ∧ (mi_f h 9858) + ((1 : Int)) ≤ 2147483647, 0 ≤ ((mi_f h 9858) + ((1 : Int))) ∧ ((mi_f h 9858) + ((1 : Int))) ≤ 241, zc < ((65 : Int)), ((0 : Int)) = 0 ∨ ((0 : Int)) = 1, ((0 : Int)) = ((0 : Int)), zc < ((48 : Int)), ((0 : Int)) = 0 ∨ ((0 : Int)) = 1, ((0 : Int)) = ((0 : Int)), zc = ((40 : Int))]) := rfl
theorem mi_tab_tcA_1 : ∀ e ∈ ([(39, (2, 0, sb_39)), (36, (1, 4, sb_36)), (37, (1, 4, sb_37))] : mi_T), sc_P e.1 = some e.2 := mi_tb mi_P39 (mi_tb mi_P36 (mi_tb mi_P37 (mi_tb_e)))
set_option maxRecDepth 20000 in
theorem ms_tcA_1 {h : sm_H} {d : Nat} {Q : Option mi_V → sm_H → Prop} {zc : Int} (hS : ab_Sh sx_sk h) (ok_zc : mi_in zc) (ho : (-2147483648 ≤ (mi_f h 9858) + ((1 : Int)) ∧ (mi_f h 9858) + ((1 : Int)) ≤ 2147483647) ∧ (0 ≤ ((mi_f h 9858) + ((1 : Int))) ∧ ((mi_f h 9858) + ((1 : Int))) ≤ 241) ∧ (zc < ((65 : Int))) ∧ (((0 : Int)) = 0 ∨ ((0 : Int)) = 1) ∧ (((0 : Int)) = ((0 : Int))) ∧ (zc < ((48 : Int))) ∧ (((0 : Int)) = 0 ∨ ((0 : Int)) = 1) ∧ (((0 : Int)) = ((0 : Int))) ∧ (zc = ((40 : Int)))) (kon : ∀ h1, me_W [.inl (9859, (10 : Int)), .inl (9857, (mi_f h 9858) + ((1 : Int)))] h h1 → Q none h1) : me_E (d + 9) 39 0 [some (.inr (.inr 77)), some (.inl (zc))] [] h Q := mf_seg (mp_tcA_1 h d zc) (mi_tab_tcA_1) hS (mi_okL_c (trivial) (mi_okL_c (ok_zc) (mi_okL_e))) (mi_okS_e) (mi_al (ho.1) (mi_al (ho.2.1) (mi_al (ho.2.2.1) (mi_al (ho.2.2.2.1) (mi_al (ho.2.2.2.2.1) (mi_al (ho.2.2.2.2.2.1) (mi_al (ho.2.2.2.2.2.2.1) (mi_al (ho.2.2.2.2.2.2.2.1) (mi_al (ho.2.2.2.2.2.2.2.2) (mi_al_e)))))))))) (fun h1 W _ hst => mf_ret (M := (2, 0, sb_39)) rfl rfl rfl hst (mi_al_e) (kon h1 W))
set_option maxRecDepth 20000 in
theorem mp_tcA_2 (h : sm_H) (d : Nat) (zc : Int) : mj_path [(39, (2, 0, sb_39)), (36, (1, 4, sb_36)), (37, (1, 4, sb_37))] sx_sk h 30 [8, 1, 1, 0, 1, 1, 1] (d + 9, 39, 0, [some (.inr (.inr 77)), some (.inl (zc))], [], [], []) = some ((d + 9, 39, 73, [some (.inr (.inr 77)), some (.inl (zc))], [.inl (zc), .inr (.inr 8)], [.inl (9857, (mi_f h 9858) + ((1 : Int)))], []), [-2147483648 ≤ (mi_f h 9858) + ((1 : Int)) ∧ (mi_f h 9858) + ((1 : Int)) ≤ 2147483647, 0 ≤ ((mi_f h 9858) + ((1 : Int))) ∧ ((mi_f h 9858) + ((1 : Int))) ≤ 241, zc < ((65 : Int)), ((0 : Int)) = 0 ∨ ((0 : Int)) = 1, ((0 : Int)) = ((0 : Int)), ((48 : Int)) ≤ zc, ((57 : Int)) < zc, ((0 : Int)) = 0 ∨ ((0 : Int)) = 1, ((0 : Int)) = ((0 : Int)), zc ≠ ((40 : Int))]) := rfl
theorem mi_tab_tcA_2 : ∀ e ∈ ([(39, (2, 0, sb_39)), (36, (1, 4, sb_36)), (37, (1, 4, sb_37))] : mi_T), sc_P e.1 = some e.2 := mi_tb mi_P39 (mi_tb mi_P36 (mi_tb mi_P37 (mi_tb_e)))
set_option maxRecDepth 20000 in
theorem ms_tcA_2 {h : sm_H} {d : Nat} {Q : Option mi_V → sm_H → Prop} {zc : Int} (hS : ab_Sh sx_sk h) (ok_zc : mi_in zc) (ho : (-2147483648 ≤ (mi_f h 9858) + ((1 : Int)) ∧ (mi_f h 9858) + ((1 : Int)) ≤ 2147483647) ∧ (0 ≤ ((mi_f h 9858) + ((1 : Int))) ∧ ((mi_f h 9858) + ((1 : Int))) ≤ 241) ∧ (zc < ((65 : Int))) ∧ (((0 : Int)) = 0 ∨ ((0 : Int)) = 1) ∧ (((0 : Int)) = ((0 : Int))) ∧ (((48 : Int)) ≤ zc) ∧ (((57 : Int)) < zc) ∧ (((0 : Int)) = 0 ∨ ((0 : Int)) = 1) ∧ (((0 : Int)) = ((0 : Int))) ∧ (zc ≠ ((40 : Int)))) (kon : ∀ h1, me_W [.inl (9857, (mi_f h 9858) + ((1 : Int)))] h h1 → ∃ Q1, me_E (d + 8) 40 0 (mi_entry 2 [.inr (.inr 8), .inl (zc)]) [] h1 Q1 ∧ ∀ w h2, (∀ x, w = some x → mi_ok x) → Q1 w h2 → me_E (d + 9) 39 76 [some (.inr (.inr 77)), some (.inl (zc))] (mi_back w []) h2 Q) : me_E (d + 9) 39 0 [some (.inr (.inr 77)), some (.inl (zc))] [] h Q := mf_seg (mp_tcA_2 h d zc) (mi_tab_tcA_2) hS (mi_okL_c (trivial) (mi_okL_c (ok_zc) (mi_okL_e))) (mi_okS_e) (mi_al (ho.1) (mi_al (ho.2.1) (mi_al (ho.2.2.1) (mi_al (ho.2.2.2.1) (mi_al (ho.2.2.2.2.1) (mi_al (ho.2.2.2.2.2.1) (mi_al (ho.2.2.2.2.2.2.1) (mi_al (ho.2.2.2.2.2.2.2.1) (mi_al (ho.2.2.2.2.2.2.2.2.1) (mi_al (ho.2.2.2.2.2.2.2.2.2) (mi_al_e))))))))))) (fun h1 W _ hst => let ⟨_, k1, k2⟩ := kon h1 W; mf_call (M := (2, 0, sb_39)) (M' := (2, 1, sb_40)) rfl rfl rfl rfl (Nat.le_of_ble_eq_true rfl) (Nat.le_of_ble_eq_true rfl) W.1 k1 k2)
set_option maxRecDepth 20000 in
theorem mp_tcA_3 (h : sm_H) (d : Nat) (zc : Int) : mj_path [(39, (2, 0, sb_39)), (36, (1, 4, sb_36)), (37, (1, 4, sb_37))] sx_sk h 32 [8, 1, 1, 0, 1, 1, 0] (d + 9, 39, 0, [some (.inr (.inr 77)), some (.inl (zc))], [], [], []) = some ((d + 9, 39, 93, [some (.inr (.inr 77)), some (.inl (zc))], [], [.inl (9859, (10 : Int)), .inl (9857, (mi_f h 9858) + ((1 : Int)))], []), [-2147483648 ≤ (mi_f h 9858) + ((1 : Int)) ∧ (mi_f h 9858) + ((1 : Int)) ≤ 2147483647, 0 ≤ ((mi_f h 9858) + ((1 : Int))) ∧ ((mi_f h 9858) + ((1 : Int))) ≤ 241, zc < ((65 : Int)), ((0 : Int)) = 0 ∨ ((0 : Int)) = 1, ((0 : Int)) = ((0 : Int)), ((48 : Int)) ≤ zc, ((57 : Int)) < zc, ((0 : Int)) = 0 ∨ ((0 : Int)) = 1, ((0 : Int)) = ((0 : Int)), zc = ((40 : Int))]) := rfl
theorem mi_tab_tcA_3 : ∀ e ∈ ([(39, (2, 0, sb_39)), (36, (1, 4, sb_36)), (37, (1, 4, sb_37))] : mi_T), sc_P e.1 = some e.2 := mi_tb mi_P39 (mi_tb mi_P36 (mi_tb mi_P37 (mi_tb_e)))
set_option maxRecDepth 20000 in
theorem ms_tcA_3 {h : sm_H} {d : Nat} {Q : Option mi_V → sm_H → Prop} {zc : Int} (hS : ab_Sh sx_sk h) (ok_zc : mi_in zc) (ho : (-2147483648 ≤ (mi_f h 9858) + ((1 : Int)) ∧ (mi_f h 9858) + ((1 : Int)) ≤ 2147483647) ∧ (0 ≤ ((mi_f h 9858) + ((1 : Int))) ∧ ((mi_f h 9858) + ((1 : Int))) ≤ 241) ∧ (zc < ((65 : Int))) ∧ (((0 : Int)) = 0 ∨ ((0 : Int)) = 1) ∧ (((0 : Int)) = ((0 : Int))) ∧ (((48 : Int)) ≤ zc) ∧ (((57 : Int)) < zc) ∧ (((0 : Int)) = 0 ∨ ((0 : Int)) = 1) ∧ (((0 : Int)) = ((0 : Int))) ∧ (zc = ((40 : Int)))) (kon : ∀ h1, me_W [.inl (9859, (10 : Int)), .inl (9857, (mi_f h 9858) + ((1 : Int)))] h h1 → Q none h1) : me_E (d + 9) 39 0 [some (.inr (.inr 77)), some (.inl (zc))] [] h Q := mf_seg (mp_tcA_3 h d zc) (mi_tab_tcA_3) hS (mi_okL_c (trivial) (mi_okL_c (ok_zc) (mi_okL_e))) (mi_okS_e) (mi_al (ho.1) (mi_al (ho.2.1) (mi_al (ho.2.2.1) (mi_al (ho.2.2.2.1) (mi_al (ho.2.2.2.2.1) (mi_al (ho.2.2.2.2.2.1) (mi_al (ho.2.2.2.2.2.2.1) (mi_al (ho.2.2.2.2.2.2.2.1) (mi_al (ho.2.2.2.2.2.2.2.2.1) (mi_al (ho.2.2.2.2.2.2.2.2.2) (mi_al_e))))))))))) (fun h1 W _ hst => mf_ret (M := (2, 0, sb_39)) rfl rfl rfl hst (mi_al_e) (kon h1 W))
set_option maxRecDepth 20000 in
theorem mp_tcA_4 (h : sm_H) (d : Nat) (zc : Int) : mj_path [(39, (2, 0, sb_39)), (36, (1, 4, sb_36)), (37, (1, 4, sb_37))] sx_sk h 35 [8, 1, 1, 0, 0, 0, 8] (d + 9, 39, 0, [some (.inr (.inr 77)), some (.inl (zc))], [], [], []) = some ((d + 9, 39, 93, [some (.inr (.inr 77)), some (.inl (zc))], [], [.inl (9860, zc - ((48 : Int))), .inl (9859, (11 : Int)), .inl (9857, (mi_f h 9858) + ((1 : Int)))], []), [-2147483648 ≤ (mi_f h 9858) + ((1 : Int)) ∧ (mi_f h 9858) + ((1 : Int)) ≤ 2147483647, 0 ≤ ((mi_f h 9858) + ((1 : Int))) ∧ ((mi_f h 9858) + ((1 : Int))) ≤ 241, zc < ((65 : Int)), ((0 : Int)) = 0 ∨ ((0 : Int)) = 1, ((0 : Int)) = ((0 : Int)), ((48 : Int)) ≤ zc, zc ≤ ((57 : Int)), ((1 : Int)) = 0 ∨ ((1 : Int)) = 1, ((1 : Int)) ≠ ((0 : Int)), -2147483648 ≤ zc - ((48 : Int)) ∧ zc - ((48 : Int)) ≤ 2147483647]) := rfl
theorem mi_tab_tcA_4 : ∀ e ∈ ([(39, (2, 0, sb_39)), (36, (1, 4, sb_36)), (37, (1, 4, sb_37))] : mi_T), sc_P e.1 = some e.2 := mi_tb mi_P39 (mi_tb mi_P36 (mi_tb mi_P37 (mi_tb_e)))
set_option maxRecDepth 20000 in
theorem ms_tcA_4 {h : sm_H} {d : Nat} {Q : Option mi_V → sm_H → Prop} {zc : Int} (hS : ab_Sh sx_sk h) (ok_zc : mi_in zc) (ho : (-2147483648 ≤ (mi_f h 9858) + ((1 : Int)) ∧ (mi_f h 9858) + ((1 : Int)) ≤ 2147483647) ∧ (0 ≤ ((mi_f h 9858) + ((1 : Int))) ∧ ((mi_f h 9858) + ((1 : Int))) ≤ 241) ∧ (zc < ((65 : Int))) ∧ (((0 : Int)) = 0 ∨ ((0 : Int)) = 1) ∧ (((0 : Int)) = ((0 : Int))) ∧ (((48 : Int)) ≤ zc) ∧ (zc ≤ ((57 : Int))) ∧ (((1 : Int)) = 0 ∨ ((1 : Int)) = 1) ∧ (((1 : Int)) ≠ ((0 : Int))) ∧ (-2147483648 ≤ zc - ((48 : Int)) ∧ zc - ((48 : Int)) ≤ 2147483647)) (kon : ∀ h1, me_W [.inl (9860, zc - ((48 : Int))), .inl (9859, (11 : Int)), .inl (9857, (mi_f h 9858) + ((1 : Int)))] h h1 → Q none h1) : me_E (d + 9) 39 0 [some (.inr (.inr 77)), some (.inl (zc))] [] h Q := mf_seg (mp_tcA_4 h d zc) (mi_tab_tcA_4) hS (mi_okL_c (trivial) (mi_okL_c (ok_zc) (mi_okL_e))) (mi_okS_e) (mi_al (ho.1) (mi_al (ho.2.1) (mi_al (ho.2.2.1) (mi_al (ho.2.2.2.1) (mi_al (ho.2.2.2.2.1) (mi_al (ho.2.2.2.2.2.1) (mi_al (ho.2.2.2.2.2.2.1) (mi_al (ho.2.2.2.2.2.2.2.1) (mi_al (ho.2.2.2.2.2.2.2.2.1) (mi_al (ho.2.2.2.2.2.2.2.2.2) (mi_al_e))))))))))) (fun h1 W _ hst => mf_ret (M := (2, 0, sb_39)) rfl rfl rfl hst (mi_al_e) (kon h1 W))
set_option maxRecDepth 20000 in
theorem mp_tcA_5 (h : sm_H) (d : Nat) (zc : Int) : mj_path [(39, (2, 0, sb_39)), (36, (1, 4, sb_36)), (37, (1, 4, sb_37))] sx_sk h 30 [8, 0, 1, 1, 1, 1, 1] (d + 9, 39, 0, [some (.inr (.inr 77)), some (.inl (zc))], [], [], []) = some ((d + 9, 39, 73, [some (.inr (.inr 77)), some (.inl (zc))], [.inl (zc), .inr (.inr 8)], [.inl (9857, (mi_f h 9858) + ((1 : Int)))], []), [-2147483648 ≤ (mi_f h 9858) + ((1 : Int)) ∧ (mi_f h 9858) + ((1 : Int)) ≤ 2147483647, 0 ≤ ((mi_f h 9858) + ((1 : Int))) ∧ ((mi_f h 9858) + ((1 : Int))) ≤ 241, ((65 : Int)) ≤ zc, ((90 : Int)) < zc, ((0 : Int)) = 0 ∨ ((0 : Int)) = 1, ((0 : Int)) = ((0 : Int)), zc < ((48 : Int)), ((0 : Int)) = 0 ∨ ((0 : Int)) = 1, ((0 : Int)) = ((0 : Int)), zc ≠ ((40 : Int))]) := rfl
theorem mi_tab_tcA_5 : ∀ e ∈ ([(39, (2, 0, sb_39)), (36, (1, 4, sb_36)), (37, (1, 4, sb_37))] : mi_T), sc_P e.1 = some e.2 := mi_tb mi_P39 (mi_tb mi_P36 (mi_tb mi_P37 (mi_tb_e)))
set_option maxRecDepth 20000 in
theorem ms_tcA_5 {h : sm_H} {d : Nat} {Q : Option mi_V → sm_H → Prop} {zc : Int} (hS : ab_Sh sx_sk h) (ok_zc : mi_in zc) (ho : (-2147483648 ≤ (mi_f h 9858) + ((1 : Int)) ∧ (mi_f h 9858) + ((1 : Int)) ≤ 2147483647) ∧ (0 ≤ ((mi_f h 9858) + ((1 : Int))) ∧ ((mi_f h 9858) + ((1 : Int))) ≤ 241) ∧ (((65 : Int)) ≤ zc) ∧ (((90 : Int)) < zc) ∧ (((0 : Int)) = 0 ∨ ((0 : Int)) = 1) ∧ (((0 : Int)) = ((0 : Int))) ∧ (zc < ((48 : Int))) ∧ (((0 : Int)) = 0 ∨ ((0 : Int)) = 1) ∧ (((0 : Int)) = ((0 : Int))) ∧ (zc ≠ ((40 : Int)))) (kon : ∀ h1, me_W [.inl (9857, (mi_f h 9858) + ((1 : Int)))] h h1 → ∃ Q1, me_E (d + 8) 40 0 (mi_entry 2 [.inr (.inr 8), .inl (zc)]) [] h1 Q1 ∧ ∀ w h2, (∀ x, w = some x → mi_ok x) → Q1 w h2 → me_E (d + 9) 39 76 [some (.inr (.inr 77)), some (.inl (zc))] (mi_back w []) h2 Q) : me_E (d + 9) 39 0 [some (.inr (.inr 77)), some (.inl (zc))] [] h Q := mf_seg (mp_tcA_5 h d zc) (mi_tab_tcA_5) hS (mi_okL_c (trivial) (mi_okL_c (ok_zc) (mi_okL_e))) (mi_okS_e) (mi_al (ho.1) (mi_al (ho.2.1) (mi_al (ho.2.2.1) (mi_al (ho.2.2.2.1) (mi_al (ho.2.2.2.2.1) (mi_al (ho.2.2.2.2.2.1) (mi_al (ho.2.2.2.2.2.2.1) (mi_al (ho.2.2.2.2.2.2.2.1) (mi_al (ho.2.2.2.2.2.2.2.2.1) (mi_al (ho.2.2.2.2.2.2.2.2.2) (mi_al_e))))))))))) (fun h1 W _ hst => let ⟨_, k1, k2⟩ := kon h1 W; mf_call (M := (2, 0, sb_39)) (M' := (2, 1, sb_40)) rfl rfl rfl rfl (Nat.le_of_ble_eq_true rfl) (Nat.le_of_ble_eq_true rfl) W.1 k1 k2)
set_option maxRecDepth 20000 in
theorem mp_tcA_6 (h : sm_H) (d : Nat) (zc : Int) : mj_path [(39, (2, 0, sb_39)), (36, (1, 4, sb_36)), (37, (1, 4, sb_37))] sx_sk h 32 [8, 0, 1, 1, 1, 1, 0] (d + 9, 39, 0, [some (.inr (.inr 77)), some (.inl (zc))], [], [], []) = some ((d + 9, 39, 93, [some (.inr (.inr 77)), some (.inl (zc))], [], [.inl (9859, (10 : Int)), .inl (9857, (mi_f h 9858) + ((1 : Int)))], []), [-2147483648 ≤ (mi_f h 9858) + ((1 : Int)) ∧ (mi_f h 9858) + ((1 : Int)) ≤ 2147483647, 0 ≤ ((mi_f h 9858) + ((1 : Int))) ∧ ((mi_f h 9858) + ((1 : Int))) ≤ 241, ((65 : Int)) ≤ zc, ((90 : Int)) < zc, ((0 : Int)) = 0 ∨ ((0 : Int)) = 1, ((0 : Int)) = ((0 : Int)), zc < ((48 : Int)), ((0 : Int)) = 0 ∨ ((0 : Int)) = 1, ((0 : Int)) = ((0 : Int)), zc = ((40 : Int))]) := rfl
theorem mi_tab_tcA_6 : ∀ e ∈ ([(39, (2, 0, sb_39)), (36, (1, 4, sb_36)), (37, (1, 4, sb_37))] : mi_T), sc_P e.1 = some e.2 := mi_tb mi_P39 (mi_tb mi_P36 (mi_tb mi_P37 (mi_tb_e)))
set_option maxRecDepth 20000 in
theorem ms_tcA_6 {h : sm_H} {d : Nat} {Q : Option mi_V → sm_H → Prop} {zc : Int} (hS : ab_Sh sx_sk h) (ok_zc : mi_in zc) (ho : (-2147483648 ≤ (mi_f h 9858) + ((1 : Int)) ∧ (mi_f h 9858) + ((1 : Int)) ≤ 2147483647) ∧ (0 ≤ ((mi_f h 9858) + ((1 : Int))) ∧ ((mi_f h 9858) + ((1 : Int))) ≤ 241) ∧ (((65 : Int)) ≤ zc) ∧ (((90 : Int)) < zc) ∧ (((0 : Int)) = 0 ∨ ((0 : Int)) = 1) ∧ (((0 : Int)) = ((0 : Int))) ∧ (zc < ((48 : Int))) ∧ (((0 : Int)) = 0 ∨ ((0 : Int)) = 1) ∧ (((0 : Int)) = ((0 : Int))) ∧ (zc = ((40 : Int)))) (kon : ∀ h1, me_W [.inl (9859, (10 : Int)), .inl (9857, (mi_f h 9858) + ((1 : Int)))] h h1 → Q none h1) : me_E (d + 9) 39 0 [some (.inr (.inr 77)), some (.inl (zc))] [] h Q := mf_seg (mp_tcA_6 h d zc) (mi_tab_tcA_6) hS (mi_okL_c (trivial) (mi_okL_c (ok_zc) (mi_okL_e))) (mi_okS_e) (mi_al (ho.1) (mi_al (ho.2.1) (mi_al (ho.2.2.1) (mi_al (ho.2.2.2.1) (mi_al (ho.2.2.2.2.1) (mi_al (ho.2.2.2.2.2.1) (mi_al (ho.2.2.2.2.2.2.1) (mi_al (ho.2.2.2.2.2.2.2.1) (mi_al (ho.2.2.2.2.2.2.2.2.1) (mi_al (ho.2.2.2.2.2.2.2.2.2) (mi_al_e))))))))))) (fun h1 W _ hst => mf_ret (M := (2, 0, sb_39)) rfl rfl rfl hst (mi_al_e) (kon h1 W))
set_option maxRecDepth 20000 in
theorem mp_tcA_7 (h : sm_H) (d : Nat) (zc : Int) : mj_path [(39, (2, 0, sb_39)), (36, (1, 4, sb_36)), (37, (1, 4, sb_37))] sx_sk h 33 [8, 0, 1, 1, 0, 1, 1, 1] (d + 9, 39, 0, [some (.inr (.inr 77)), some (.inl (zc))], [], [], []) = some ((d + 9, 39, 73, [some (.inr (.inr 77)), some (.inl (zc))], [.inl (zc), .inr (.inr 8)], [.inl (9857, (mi_f h 9858) + ((1 : Int)))], []), [-2147483648 ≤ (mi_f h 9858) + ((1 : Int)) ∧ (mi_f h 9858) + ((1 : Int)) ≤ 2147483647, 0 ≤ ((mi_f h 9858) + ((1 : Int))) ∧ ((mi_f h 9858) + ((1 : Int))) ≤ 241, ((65 : Int)) ≤ zc, ((90 : Int)) < zc, ((0 : Int)) = 0 ∨ ((0 : Int)) = 1, ((0 : Int)) = ((0 : Int)), ((48 : Int)) ≤ zc, ((57 : Int)) < zc, ((0 : Int)) = 0 ∨ ((0 : Int)) = 1, ((0 : Int)) = ((0 : Int)), zc ≠ ((40 : Int))]) := rfl
theorem mi_tab_tcA_7 : ∀ e ∈ ([(39, (2, 0, sb_39)), (36, (1, 4, sb_36)), (37, (1, 4, sb_37))] : mi_T), sc_P e.1 = some e.2 := mi_tb mi_P39 (mi_tb mi_P36 (mi_tb mi_P37 (mi_tb_e)))
set_option maxRecDepth 20000 in
theorem ms_tcA_7 {h : sm_H} {d : Nat} {Q : Option mi_V → sm_H → Prop} {zc : Int} (hS : ab_Sh sx_sk h) (ok_zc : mi_in zc) (ho : (-2147483648 ≤ (mi_f h 9858) + ((1 : Int)) ∧ (mi_f h 9858) + ((1 : Int)) ≤ 2147483647) ∧ (0 ≤ ((mi_f h 9858) + ((1 : Int))) ∧ ((mi_f h 9858) + ((1 : Int))) ≤ 241) ∧ (((65 : Int)) ≤ zc) ∧ (((90 : Int)) < zc) ∧ (((0 : Int)) = 0 ∨ ((0 : Int)) = 1) ∧ (((0 : Int)) = ((0 : Int))) ∧ (((48 : Int)) ≤ zc) ∧ (((57 : Int)) < zc) ∧ (((0 : Int)) = 0 ∨ ((0 : Int)) = 1) ∧ (((0 : Int)) = ((0 : Int))) ∧ (zc ≠ ((40 : Int)))) (kon : ∀ h1, me_W [.inl (9857, (mi_f h 9858) + ((1 : Int)))] h h1 → ∃ Q1, me_E (d + 8) 40 0 (mi_entry 2 [.inr (.inr 8), .inl (zc)]) [] h1 Q1 ∧ ∀ w h2, (∀ x, w = some x → mi_ok x) → Q1 w h2 → me_E (d + 9) 39 76 [some (.inr (.inr 77)), some (.inl (zc))] (mi_back w []) h2 Q) : me_E (d + 9) 39 0 [some (.inr (.inr 77)), some (.inl (zc))] [] h Q := mf_seg (mp_tcA_7 h d zc) (mi_tab_tcA_7) hS (mi_okL_c (trivial) (mi_okL_c (ok_zc) (mi_okL_e))) (mi_okS_e) (mi_al (ho.1) (mi_al (ho.2.1) (mi_al (ho.2.2.1) (mi_al (ho.2.2.2.1) (mi_al (ho.2.2.2.2.1) (mi_al (ho.2.2.2.2.2.1) (mi_al (ho.2.2.2.2.2.2.1) (mi_al (ho.2.2.2.2.2.2.2.1) (mi_al (ho.2.2.2.2.2.2.2.2.1) (mi_al (ho.2.2.2.2.2.2.2.2.2.1) (mi_al (ho.2.2.2.2.2.2.2.2.2.2) (mi_al_e)))))))))))) (fun h1 W _ hst => let ⟨_, k1, k2⟩ := kon h1 W; mf_call (M := (2, 0, sb_39)) (M' := (2, 1, sb_40)) rfl rfl rfl rfl (Nat.le_of_ble_eq_true rfl) (Nat.le_of_ble_eq_true rfl) W.1 k1 k2)
set_option maxRecDepth 20000 in
theorem mp_tcA_8 (h : sm_H) (d : Nat) (zc : Int) : mj_path [(39, (2, 0, sb_39)), (36, (1, 4, sb_36)), (37, (1, 4, sb_37))] sx_sk h 35 [8, 0, 1, 1, 0, 1, 1, 0] (d + 9, 39, 0, [some (.inr (.inr 77)), some (.inl (zc))], [], [], []) = some ((d + 9, 39, 93, [some (.inr (.inr 77)), some (.inl (zc))], [], [.inl (9859, (10 : Int)), .inl (9857, (mi_f h 9858) + ((1 : Int)))], []), [-2147483648 ≤ (mi_f h 9858) + ((1 : Int)) ∧ (mi_f h 9858) + ((1 : Int)) ≤ 2147483647, 0 ≤ ((mi_f h 9858) + ((1 : Int))) ∧ ((mi_f h 9858) + ((1 : Int))) ≤ 241, ((65 : Int)) ≤ zc, ((90 : Int)) < zc, ((0 : Int)) = 0 ∨ ((0 : Int)) = 1, ((0 : Int)) = ((0 : Int)), ((48 : Int)) ≤ zc, ((57 : Int)) < zc, ((0 : Int)) = 0 ∨ ((0 : Int)) = 1, ((0 : Int)) = ((0 : Int)), zc = ((40 : Int))]) := rfl
theorem mi_tab_tcA_8 : ∀ e ∈ ([(39, (2, 0, sb_39)), (36, (1, 4, sb_36)), (37, (1, 4, sb_37))] : mi_T), sc_P e.1 = some e.2 := mi_tb mi_P39 (mi_tb mi_P36 (mi_tb mi_P37 (mi_tb_e)))
set_option maxRecDepth 20000 in
theorem ms_tcA_8 {h : sm_H} {d : Nat} {Q : Option mi_V → sm_H → Prop} {zc : Int} (hS : ab_Sh sx_sk h) (ok_zc : mi_in zc) (ho : (-2147483648 ≤ (mi_f h 9858) + ((1 : Int)) ∧ (mi_f h 9858) + ((1 : Int)) ≤ 2147483647) ∧ (0 ≤ ((mi_f h 9858) + ((1 : Int))) ∧ ((mi_f h 9858) + ((1 : Int))) ≤ 241) ∧ (((65 : Int)) ≤ zc) ∧ (((90 : Int)) < zc) ∧ (((0 : Int)) = 0 ∨ ((0 : Int)) = 1) ∧ (((0 : Int)) = ((0 : Int))) ∧ (((48 : Int)) ≤ zc) ∧ (((57 : Int)) < zc) ∧ (((0 : Int)) = 0 ∨ ((0 : Int)) = 1) ∧ (((0 : Int)) = ((0 : Int))) ∧ (zc = ((40 : Int)))) (kon : ∀ h1, me_W [.inl (9859, (10 : Int)), .inl (9857, (mi_f h 9858) + ((1 : Int)))] h h1 → Q none h1) : me_E (d + 9) 39 0 [some (.inr (.inr 77)), some (.inl (zc))] [] h Q := mf_seg (mp_tcA_8 h d zc) (mi_tab_tcA_8) hS (mi_okL_c (trivial) (mi_okL_c (ok_zc) (mi_okL_e))) (mi_okS_e) (mi_al (ho.1) (mi_al (ho.2.1) (mi_al (ho.2.2.1) (mi_al (ho.2.2.2.1) (mi_al (ho.2.2.2.2.1) (mi_al (ho.2.2.2.2.2.1) (mi_al (ho.2.2.2.2.2.2.1) (mi_al (ho.2.2.2.2.2.2.2.1) (mi_al (ho.2.2.2.2.2.2.2.2.1) (mi_al (ho.2.2.2.2.2.2.2.2.2.1) (mi_al (ho.2.2.2.2.2.2.2.2.2.2) (mi_al_e)))))))))))) (fun h1 W _ hst => mf_ret (M := (2, 0, sb_39)) rfl rfl rfl hst (mi_al_e) (kon h1 W))
set_option maxRecDepth 20000 in
theorem mp_tcA_9 (h : sm_H) (d : Nat) (zc : Int) : mj_path [(39, (2, 0, sb_39)), (36, (1, 4, sb_36)), (37, (1, 4, sb_37))] sx_sk h 38 [8, 0, 1, 1, 0, 0, 0, 8] (d + 9, 39, 0, [some (.inr (.inr 77)), some (.inl (zc))], [], [], []) = some ((d + 9, 39, 93, [some (.inr (.inr 77)), some (.inl (zc))], [], [.inl (9860, zc - ((48 : Int))), .inl (9859, (11 : Int)), .inl (9857, (mi_f h 9858) + ((1 : Int)))], []), [-2147483648 ≤ (mi_f h 9858) + ((1 : Int)) ∧ (mi_f h 9858) + ((1 : Int)) ≤ 2147483647, 0 ≤ ((mi_f h 9858) + ((1 : Int))) ∧ ((mi_f h 9858) + ((1 : Int))) ≤ 241, ((65 : Int)) ≤ zc, ((90 : Int)) < zc, ((0 : Int)) = 0 ∨ ((0 : Int)) = 1, ((0 : Int)) = ((0 : Int)), ((48 : Int)) ≤ zc, zc ≤ ((57 : Int)), ((1 : Int)) = 0 ∨ ((1 : Int)) = 1, ((1 : Int)) ≠ ((0 : Int)), -2147483648 ≤ zc - ((48 : Int)) ∧ zc - ((48 : Int)) ≤ 2147483647]) := rfl
theorem mi_tab_tcA_9 : ∀ e ∈ ([(39, (2, 0, sb_39)), (36, (1, 4, sb_36)), (37, (1, 4, sb_37))] : mi_T), sc_P e.1 = some e.2 := mi_tb mi_P39 (mi_tb mi_P36 (mi_tb mi_P37 (mi_tb_e)))
set_option maxRecDepth 20000 in
theorem ms_tcA_9 {h : sm_H} {d : Nat} {Q : Option mi_V → sm_H → Prop} {zc : Int} (hS : ab_Sh sx_sk h) (ok_zc : mi_in zc) (ho : (-2147483648 ≤ (mi_f h 9858) + ((1 : Int)) ∧ (mi_f h 9858) + ((1 : Int)) ≤ 2147483647) ∧ (0 ≤ ((mi_f h 9858) + ((1 : Int))) ∧ ((mi_f h 9858) + ((1 : Int))) ≤ 241) ∧ (((65 : Int)) ≤ zc) ∧ (((90 : Int)) < zc) ∧ (((0 : Int)) = 0 ∨ ((0 : Int)) = 1) ∧ (((0 : Int)) = ((0 : Int))) ∧ (((48 : Int)) ≤ zc) ∧ (zc ≤ ((57 : Int))) ∧ (((1 : Int)) = 0 ∨ ((1 : Int)) = 1) ∧ (((1 : Int)) ≠ ((0 : Int))) ∧ (-2147483648 ≤ zc - ((48 : Int)) ∧ zc - ((48 : Int)) ≤ 2147483647)) (kon : ∀ h1, me_W [.inl (9860, zc - ((48 : Int))), .inl (9859, (11 : Int)), .inl (9857, (mi_f h 9858) + ((1 : Int)))] h h1 → Q none h1) : me_E (d + 9) 39 0 [some (.inr (.inr 77)), some (.inl (zc))] [] h Q := mf_seg (mp_tcA_9 h d zc) (mi_tab_tcA_9) hS (mi_okL_c (trivial) (mi_okL_c (ok_zc) (mi_okL_e))) (mi_okS_e) (mi_al (ho.1) (mi_al (ho.2.1) (mi_al (ho.2.2.1) (mi_al (ho.2.2.2.1) (mi_al (ho.2.2.2.2.1) (mi_al (ho.2.2.2.2.2.1) (mi_al (ho.2.2.2.2.2.2.1) (mi_al (ho.2.2.2.2.2.2.2.1) (mi_al (ho.2.2.2.2.2.2.2.2.1) (mi_al (ho.2.2.2.2.2.2.2.2.2.1) (mi_al (ho.2.2.2.2.2.2.2.2.2.2) (mi_al_e)))))))))))) (fun h1 W _ hst => mf_ret (M := (2, 0, sb_39)) rfl rfl rfl hst (mi_al_e) (kon h1 W))
set_option maxRecDepth 20000 in
theorem mp_tcA_10 (h : sm_H) (d : Nat) (zc : Int) : mj_path [(39, (2, 0, sb_39)), (36, (1, 4, sb_36)), (37, (1, 4, sb_37))] sx_sk h 25 [8, 0, 0, 0] (d + 9, 39, 0, [some (.inr (.inr 77)), some (.inl (zc))], [], [], []) = some ((d + 9, 39, 93, [some (.inr (.inr 77)), some (.inl (zc))], [], [.inl (9860, zc), .inl (9859, (9 : Int)), .inl (9857, (mi_f h 9858) + ((1 : Int)))], []), [-2147483648 ≤ (mi_f h 9858) + ((1 : Int)) ∧ (mi_f h 9858) + ((1 : Int)) ≤ 2147483647, 0 ≤ ((mi_f h 9858) + ((1 : Int))) ∧ ((mi_f h 9858) + ((1 : Int))) ≤ 241, ((65 : Int)) ≤ zc, zc ≤ ((90 : Int)), ((1 : Int)) = 0 ∨ ((1 : Int)) = 1, ((1 : Int)) ≠ ((0 : Int))]) := rfl
theorem mi_tab_tcA_10 : ∀ e ∈ ([(39, (2, 0, sb_39)), (36, (1, 4, sb_36)), (37, (1, 4, sb_37))] : mi_T), sc_P e.1 = some e.2 := mi_tb mi_P39 (mi_tb mi_P36 (mi_tb mi_P37 (mi_tb_e)))
set_option maxRecDepth 20000 in
theorem ms_tcA_10 {h : sm_H} {d : Nat} {Q : Option mi_V → sm_H → Prop} {zc : Int} (hS : ab_Sh sx_sk h) (ok_zc : mi_in zc) (ho : (-2147483648 ≤ (mi_f h 9858) + ((1 : Int)) ∧ (mi_f h 9858) + ((1 : Int)) ≤ 2147483647) ∧ (0 ≤ ((mi_f h 9858) + ((1 : Int))) ∧ ((mi_f h 9858) + ((1 : Int))) ≤ 241) ∧ (((65 : Int)) ≤ zc) ∧ (zc ≤ ((90 : Int))) ∧ (((1 : Int)) = 0 ∨ ((1 : Int)) = 1) ∧ (((1 : Int)) ≠ ((0 : Int)))) (kon : ∀ h1, me_W [.inl (9860, zc), .inl (9859, (9 : Int)), .inl (9857, (mi_f h 9858) + ((1 : Int)))] h h1 → Q none h1) : me_E (d + 9) 39 0 [some (.inr (.inr 77)), some (.inl (zc))] [] h Q := mf_seg (mp_tcA_10 h d zc) (mi_tab_tcA_10) hS (mi_okL_c (trivial) (mi_okL_c (ok_zc) (mi_okL_e))) (mi_okS_e) (mi_al (ho.1) (mi_al (ho.2.1) (mi_al (ho.2.2.1) (mi_al (ho.2.2.2.1) (mi_al (ho.2.2.2.2.1) (mi_al (ho.2.2.2.2.2) (mi_al_e))))))) (fun h1 W _ hst => mf_ret (M := (2, 0, sb_39)) rfl rfl rfl hst (mi_al_e) (kon h1 W))
set_option maxRecDepth 20000 in
theorem mt_tcA {h : sm_H} {d : Nat} {Q : Option mi_V → sm_H → Prop} {zc : Int} (hS : ab_Sh sx_sk h) (ok_zc : mi_in zc) (k0 : (0 ≤ mi_f h 9858 ∧ mi_f h 9858 ≤ 241) → (zc < ((65 : Int))) → (zc < ((48 : Int))) → (zc ≠ ((40 : Int))) → ((-2147483648 ≤ (mi_f h 9858) + ((1 : Int)) ∧ (mi_f h 9858) + ((1 : Int)) ≤ 2147483647) ∧ (0 ≤ ((mi_f h 9858) + ((1 : Int))) ∧ ((mi_f h 9858) + ((1 : Int))) ≤ 241)) ∧ (∀ h1, ab_Sh sx_sk h1 → mi_f h1 9857 = (mi_f h 9858) + ((1 : Int)) → ab_Fr [(9857, 9858)] h h1 → ∃ Q1, me_E (d + 8) 40 0 (mi_entry 2 [.inr (.inr 8), .inl (zc)]) [] h1 Q1 ∧ ∀ w h2, (∀ x, w = some x → mi_ok x) → Q1 w h2 → me_E (d + 9) 39 76 [some (.inr (.inr 77)), some (.inl (zc))] (mi_back w []) h2 Q)) (k1 : (0 ≤ mi_f h 9858 ∧ mi_f h 9858 ≤ 241) → (zc < ((65 : Int))) → (zc < ((48 : Int))) → (zc = ((40 : Int))) → ((-2147483648 ≤ (mi_f h 9858) + ((1 : Int)) ∧ (mi_f h 9858) + ((1 : Int)) ≤ 2147483647) ∧ (0 ≤ ((mi_f h 9858) + ((1 : Int))) ∧ ((mi_f h 9858) + ((1 : Int))) ≤ 241)) ∧ (∀ h1, ab_Sh sx_sk h1 → mi_f h1 9857 = (mi_f h 9858) + ((1 : Int)) → mi_f h1 9859 = (10 : Int) → ab_Fr [(9857, 9858), (9859, 9860)] h h1 → Q none h1)) (k2 : (0 ≤ mi_f h 9858 ∧ mi_f h 9858 ≤ 241) → (zc < ((65 : Int))) → (((48 : Int)) ≤ zc) → (((57 : Int)) < zc) → (zc ≠ ((40 : Int))) → ((-2147483648 ≤ (mi_f h 9858) + ((1 : Int)) ∧ (mi_f h 9858) + ((1 : Int)) ≤ 2147483647) ∧ (0 ≤ ((mi_f h 9858) + ((1 : Int))) ∧ ((mi_f h 9858) + ((1 : Int))) ≤ 241)) ∧ (∀ h1, ab_Sh sx_sk h1 → mi_f h1 9857 = (mi_f h 9858) + ((1 : Int)) → ab_Fr [(9857, 9858)] h h1 → ∃ Q1, me_E (d + 8) 40 0 (mi_entry 2 [.inr (.inr 8), .inl (zc)]) [] h1 Q1 ∧ ∀ w h2, (∀ x, w = some x → mi_ok x) → Q1 w h2 → me_E (d + 9) 39 76 [some (.inr (.inr 77)), some (.inl (zc))] (mi_back w []) h2 Q)) (k3 : (0 ≤ mi_f h 9858 ∧ mi_f h 9858 ≤ 241) → (zc < ((65 : Int))) → (((48 : Int)) ≤ zc) → (((57 : Int)) < zc) → (zc = ((40 : Int))) → ((-2147483648 ≤ (mi_f h 9858) + ((1 : Int)) ∧ (mi_f h 9858) + ((1 : Int)) ≤ 2147483647) ∧ (0 ≤ ((mi_f h 9858) + ((1 : Int))) ∧ ((mi_f h 9858) + ((1 : Int))) ≤ 241)) ∧ (∀ h1, ab_Sh sx_sk h1 → mi_f h1 9857 = (mi_f h 9858) + ((1 : Int)) → mi_f h1 9859 = (10 : Int) → ab_Fr [(9857, 9858), (9859, 9860)] h h1 → Q none h1)) (k4 : (0 ≤ mi_f h 9858 ∧ mi_f h 9858 ≤ 241) → (zc < ((65 : Int))) → (((48 : Int)) ≤ zc) → (zc ≤ ((57 : Int))) → ((-2147483648 ≤ (mi_f h 9858) + ((1 : Int)) ∧ (mi_f h 9858) + ((1 : Int)) ≤ 2147483647) ∧ (0 ≤ ((mi_f h 9858) + ((1 : Int))) ∧ ((mi_f h 9858) + ((1 : Int))) ≤ 241) ∧ (-2147483648 ≤ zc - ((48 : Int)) ∧ zc - ((48 : Int)) ≤ 2147483647)) ∧ (∀ h1, ab_Sh sx_sk h1 → mi_f h1 9857 = (mi_f h 9858) + ((1 : Int)) → mi_f h1 9859 = (11 : Int) → mi_f h1 9860 = zc - ((48 : Int)) → ab_Fr [(9857, 9858), (9859, 9861)] h h1 → Q none h1)) (k5 : (0 ≤ mi_f h 9858 ∧ mi_f h 9858 ≤ 241) → (((65 : Int)) ≤ zc) → (((90 : Int)) < zc) → (zc < ((48 : Int))) → (zc ≠ ((40 : Int))) → ((-2147483648 ≤ (mi_f h 9858) + ((1 : Int)) ∧ (mi_f h 9858) + ((1 : Int)) ≤ 2147483647) ∧ (0 ≤ ((mi_f h 9858) + ((1 : Int))) ∧ ((mi_f h 9858) + ((1 : Int))) ≤ 241)) ∧ (∀ h1, ab_Sh sx_sk h1 → mi_f h1 9857 = (mi_f h 9858) + ((1 : Int)) → ab_Fr [(9857, 9858)] h h1 → ∃ Q1, me_E (d + 8) 40 0 (mi_entry 2 [.inr (.inr 8), .inl (zc)]) [] h1 Q1 ∧ ∀ w h2, (∀ x, w = some x → mi_ok x) → Q1 w h2 → me_E (d + 9) 39 76 [some (.inr (.inr 77)), some (.inl (zc))] (mi_back w []) h2 Q)) (k6 : (0 ≤ mi_f h 9858 ∧ mi_f h 9858 ≤ 241) → (((65 : Int)) ≤ zc) → (((90 : Int)) < zc) → (zc < ((48 : Int))) → (zc = ((40 : Int))) → ((-2147483648 ≤ (mi_f h 9858) + ((1 : Int)) ∧ (mi_f h 9858) + ((1 : Int)) ≤ 2147483647) ∧ (0 ≤ ((mi_f h 9858) + ((1 : Int))) ∧ ((mi_f h 9858) + ((1 : Int))) ≤ 241)) ∧ (∀ h1, ab_Sh sx_sk h1 → mi_f h1 9857 = (mi_f h 9858) + ((1 : Int)) → mi_f h1 9859 = (10 : Int) → ab_Fr [(9857, 9858), (9859, 9860)] h h1 → Q none h1)) (k7 : (0 ≤ mi_f h 9858 ∧ mi_f h 9858 ≤ 241) → (((65 : Int)) ≤ zc) → (((90 : Int)) < zc) → (((48 : Int)) ≤ zc) → (((57 : Int)) < zc) → (zc ≠ ((40 : Int))) → ((-2147483648 ≤ (mi_f h 9858) + ((1 : Int)) ∧ (mi_f h 9858) + ((1 : Int)) ≤ 2147483647) ∧ (0 ≤ ((mi_f h 9858) + ((1 : Int))) ∧ ((mi_f h 9858) + ((1 : Int))) ≤ 241)) ∧ (∀ h1, ab_Sh sx_sk h1 → mi_f h1 9857 = (mi_f h 9858) + ((1 : Int)) → ab_Fr [(9857, 9858)] h h1 → ∃ Q1, me_E (d + 8) 40 0 (mi_entry 2 [.inr (.inr 8), .inl (zc)]) [] h1 Q1 ∧ ∀ w h2, (∀ x, w = some x → mi_ok x) → Q1 w h2 → me_E (d + 9) 39 76 [some (.inr (.inr 77)), some (.inl (zc))] (mi_back w []) h2 Q)) (k8 : (0 ≤ mi_f h 9858 ∧ mi_f h 9858 ≤ 241) → (((65 : Int)) ≤ zc) → (((90 : Int)) < zc) → (((48 : Int)) ≤ zc) → (((57 : Int)) < zc) → (zc = ((40 : Int))) → ((-2147483648 ≤ (mi_f h 9858) + ((1 : Int)) ∧ (mi_f h 9858) + ((1 : Int)) ≤ 2147483647) ∧ (0 ≤ ((mi_f h 9858) + ((1 : Int))) ∧ ((mi_f h 9858) + ((1 : Int))) ≤ 241)) ∧ (∀ h1, ab_Sh sx_sk h1 → mi_f h1 9857 = (mi_f h 9858) + ((1 : Int)) → mi_f h1 9859 = (10 : Int) → ab_Fr [(9857, 9858), (9859, 9860)] h h1 → Q none h1)) (k9 : (0 ≤ mi_f h 9858 ∧ mi_f h 9858 ≤ 241) → (((65 : Int)) ≤ zc) → (((90 : Int)) < zc) → (((48 : Int)) ≤ zc) → (zc ≤ ((57 : Int))) → ((-2147483648 ≤ (mi_f h 9858) + ((1 : Int)) ∧ (mi_f h 9858) + ((1 : Int)) ≤ 2147483647) ∧ (0 ≤ ((mi_f h 9858) + ((1 : Int))) ∧ ((mi_f h 9858) + ((1 : Int))) ≤ 241) ∧ (-2147483648 ≤ zc - ((48 : Int)) ∧ zc - ((48 : Int)) ≤ 2147483647)) ∧ (∀ h1, ab_Sh sx_sk h1 → mi_f h1 9857 = (mi_f h 9858) + ((1 : Int)) → mi_f h1 9859 = (11 : Int) → mi_f h1 9860 = zc - ((48 : Int)) → ab_Fr [(9857, 9858), (9859, 9861)] h h1 → Q none h1)) (k10 : (0 ≤ mi_f h 9858 ∧ mi_f h 9858 ≤ 241) → (((65 : Int)) ≤ zc) → (zc ≤ ((90 : Int))) → ((-2147483648 ≤ (mi_f h 9858) + ((1 : Int)) ∧ (mi_f h 9858) + ((1 : Int)) ≤ 2147483647) ∧ (0 ≤ ((mi_f h 9858) + ((1 : Int))) ∧ ((mi_f h 9858) + ((1 : Int))) ≤ 241)) ∧ (∀ h1, ab_Sh sx_sk h1 → mi_f h1 9857 = (mi_f h 9858) + ((1 : Int)) → mi_f h1 9859 = (9 : Int) → mi_f h1 9860 = zc → ab_Fr [(9857, 9858), (9859, 9861)] h h1 → Q none h1)) : me_E (d + 9) 39 0 [some (.inr (.inr 77)), some (.inl (zc))] [] h Q := Or.elim (mi_em .lt (zc) (((65 : Int)))) (fun c0 => Or.elim (mi_em .lt (zc) (((48 : Int)))) (fun c1 => Or.elim (mi_em .ne (zc) (((40 : Int)))) (fun c2 => ms_tcA_0 hS ok_zc ⟨(k0 (me_fb hS rfl) c0 c1 c2).1.1, (k0 (me_fb hS rfl) c0 c1 c2).1.2, c0, (by decide), (by decide), c1, (by decide), (by decide), c2⟩ (fun h1 W => (k0 (me_fb hS rfl) c0 c1 c2).2 h1 W.1 (W.2.1 9857) (W.2.2.2.2.2 _ rfl))) (fun c2 => ms_tcA_1 hS ok_zc ⟨(k1 (me_fb hS rfl) c0 c1 c2).1.1, (k1 (me_fb hS rfl) c0 c1 c2).1.2, c0, (by decide), (by decide), c1, (by decide), (by decide), c2⟩ (fun h1 W => (k1 (me_fb hS rfl) c0 c1 c2).2 h1 W.1 (W.2.1 9857) (W.2.1 9859) (W.2.2.2.2.2 _ rfl)))) (fun c1 => Or.elim (mi_em .gt (zc) (((57 : Int)))) (fun c2 => Or.elim (mi_em .ne (zc) (((40 : Int)))) (fun c3 => ms_tcA_2 hS ok_zc ⟨(k2 (me_fb hS rfl) c0 c1 c2 c3).1.1, (k2 (me_fb hS rfl) c0 c1 c2 c3).1.2, c0, (by decide), (by decide), c1, c2, (by decide), (by decide), c3⟩ (fun h1 W => (k2 (me_fb hS rfl) c0 c1 c2 c3).2 h1 W.1 (W.2.1 9857) (W.2.2.2.2.2 _ rfl))) (fun c3 => ms_tcA_3 hS ok_zc ⟨(k3 (me_fb hS rfl) c0 c1 c2 c3).1.1, (k3 (me_fb hS rfl) c0 c1 c2 c3).1.2, c0, (by decide), (by decide), c1, c2, (by decide), (by decide), c3⟩ (fun h1 W => (k3 (me_fb hS rfl) c0 c1 c2 c3).2 h1 W.1 (W.2.1 9857) (W.2.1 9859) (W.2.2.2.2.2 _ rfl)))) (fun c2 => ms_tcA_4 hS ok_zc ⟨(k4 (me_fb hS rfl) c0 c1 c2).1.1, (k4 (me_fb hS rfl) c0 c1 c2).1.2.1, c0, (by decide), (by decide), c1, c2, (by decide), (by decide), (k4 (me_fb hS rfl) c0 c1 c2).1.2.2⟩ (fun h1 W => (k4 (me_fb hS rfl) c0 c1 c2).2 h1 W.1 (W.2.1 9857) (W.2.1 9859) (W.2.1 9860) (W.2.2.2.2.2 _ rfl))))) (fun c0 => Or.elim (mi_em .gt (zc) (((90 : Int)))) (fun c1 => Or.elim (mi_em .lt (zc) (((48 : Int)))) (fun c2 => Or.elim (mi_em .ne (zc) (((40 : Int)))) (fun c3 => ms_tcA_5 hS ok_zc ⟨(k5 (me_fb hS rfl) c0 c1 c2 c3).1.1, (k5 (me_fb hS rfl) c0 c1 c2 c3).1.2, c0, c1, (by decide), (by decide), c2, (by decide), (by decide), c3⟩ (fun h1 W => (k5 (me_fb hS rfl) c0 c1 c2 c3).2 h1 W.1 (W.2.1 9857) (W.2.2.2.2.2 _ rfl))) (fun c3 => ms_tcA_6 hS ok_zc ⟨(k6 (me_fb hS rfl) c0 c1 c2 c3).1.1, (k6 (me_fb hS rfl) c0 c1 c2 c3).1.2, c0, c1, (by decide), (by decide), c2, (by decide), (by decide), c3⟩ (fun h1 W => (k6 (me_fb hS rfl) c0 c1 c2 c3).2 h1 W.1 (W.2.1 9857) (W.2.1 9859) (W.2.2.2.2.2 _ rfl)))) (fun c2 => Or.elim (mi_em .gt (zc) (((57 : Int)))) (fun c3 => Or.elim (mi_em .ne (zc) (((40 : Int)))) (fun c4 => ms_tcA_7 hS ok_zc ⟨(k7 (me_fb hS rfl) c0 c1 c2 c3 c4).1.1, (k7 (me_fb hS rfl) c0 c1 c2 c3 c4).1.2, c0, c1, (by decide), (by decide), c2, c3, (by decide), (by decide), c4⟩ (fun h1 W => (k7 (me_fb hS rfl) c0 c1 c2 c3 c4).2 h1 W.1 (W.2.1 9857) (W.2.2.2.2.2 _ rfl))) (fun c4 => ms_tcA_8 hS ok_zc ⟨(k8 (me_fb hS rfl) c0 c1 c2 c3 c4).1.1, (k8 (me_fb hS rfl) c0 c1 c2 c3 c4).1.2, c0, c1, (by decide), (by decide), c2, c3, (by decide), (by decide), c4⟩ (fun h1 W => (k8 (me_fb hS rfl) c0 c1 c2 c3 c4).2 h1 W.1 (W.2.1 9857) (W.2.1 9859) (W.2.2.2.2.2 _ rfl)))) (fun c3 => ms_tcA_9 hS ok_zc ⟨(k9 (me_fb hS rfl) c0 c1 c2 c3).1.1, (k9 (me_fb hS rfl) c0 c1 c2 c3).1.2.1, c0, c1, (by decide), (by decide), c2, c3, (by decide), (by decide), (k9 (me_fb hS rfl) c0 c1 c2 c3).1.2.2⟩ (fun h1 W => (k9 (me_fb hS rfl) c0 c1 c2 c3).2 h1 W.1 (W.2.1 9857) (W.2.1 9859) (W.2.1 9860) (W.2.2.2.2.2 _ rfl))))) (fun c1 => ms_tcA_10 hS ok_zc ⟨(k10 (me_fb hS rfl) c0 c1).1.1, (k10 (me_fb hS rfl) c0 c1).1.2, c0, c1, (by decide), (by decide)⟩ (fun h1 W => (k10 (me_fb hS rfl) c0 c1).2 h1 W.1 (W.2.1 9857) (W.2.1 9859) (W.2.1 9860) (W.2.2.2.2.2 _ rfl))))
set_option maxRecDepth 20000 in
theorem mp_tcB_0 (h : sm_H) (d : Nat) (zc zz : Int) : mj_path [(39, (2, 0, sb_39))] sx_sk h 4 [1] (d + 9, 39, 76, [some (.inr (.inr 77)), some (.inl (zc))], [.inl (zz)], [], []) = some ((d + 9, 39, 93, [some (.inr (.inr 77)), some (.inl (zc))], [], [.inl (9859, (12 : Int))], []), [zz < ((0 : Int))]) := rfl
theorem mi_tab_tcB_0 : ∀ e ∈ ([(39, (2, 0, sb_39))] : mi_T), sc_P e.1 = some e.2 := mi_tb mi_P39 (mi_tb_e)
set_option maxRecDepth 20000 in
theorem ms_tcB_0 {h : sm_H} {d : Nat} {Q : Option mi_V → sm_H → Prop} {zc zz : Int} (hS : ab_Sh sx_sk h) (ok_zc : mi_in zc) (ok_zz : mi_in zz) (ho : (zz < ((0 : Int)))) (kon : ∀ h1, me_W [.inl (9859, (12 : Int))] h h1 → Q none h1) : me_E (d + 9) 39 76 [some (.inr (.inr 77)), some (.inl (zc))] [.inl (zz)] h Q := mf_seg (mp_tcB_0 h d zc zz) (mi_tab_tcB_0) hS (mi_okL_c (trivial) (mi_okL_c (ok_zc) (mi_okL_e))) (mi_okS_cons (ok_zz) (mi_okS_e)) (mi_al (ho) (mi_al_e)) (fun h1 W _ hst => mf_ret (M := (2, 0, sb_39)) rfl rfl rfl hst (mi_al_e) (kon h1 W))
set_option maxRecDepth 20000 in
theorem mp_tcB_1 (h : sm_H) (d : Nat) (zc zz : Int) : mj_path [(39, (2, 0, sb_39))] sx_sk h 5 [0] (d + 9, 39, 76, [some (.inr (.inr 77)), some (.inl (zc))], [.inl (zz)], [], []) = some ((d + 9, 39, 93, [some (.inr (.inr 77)), some (.inl (zc))], [], [.inl (9859, zc)], []), [((0 : Int)) ≤ zz]) := rfl
theorem mi_tab_tcB_1 : ∀ e ∈ ([(39, (2, 0, sb_39))] : mi_T), sc_P e.1 = some e.2 := mi_tb mi_P39 (mi_tb_e)
set_option maxRecDepth 20000 in
theorem ms_tcB_1 {h : sm_H} {d : Nat} {Q : Option mi_V → sm_H → Prop} {zc zz : Int} (hS : ab_Sh sx_sk h) (ok_zc : mi_in zc) (ok_zz : mi_in zz) (ho : (((0 : Int)) ≤ zz)) (kon : ∀ h1, me_W [.inl (9859, zc)] h h1 → Q none h1) : me_E (d + 9) 39 76 [some (.inr (.inr 77)), some (.inl (zc))] [.inl (zz)] h Q := mf_seg (mp_tcB_1 h d zc zz) (mi_tab_tcB_1) hS (mi_okL_c (trivial) (mi_okL_c (ok_zc) (mi_okL_e))) (mi_okS_cons (ok_zz) (mi_okS_e)) (mi_al (ho) (mi_al_e)) (fun h1 W _ hst => mf_ret (M := (2, 0, sb_39)) rfl rfl rfl hst (mi_al_e) (kon h1 W))
set_option maxRecDepth 20000 in
theorem mt_tcB {h : sm_H} {d : Nat} {Q : Option mi_V → sm_H → Prop} {zc zz : Int} (hS : ab_Sh sx_sk h) (ok_zc : mi_in zc) (ok_zz : mi_in zz) (k0 : (zz < ((0 : Int))) → (∀ h1, ab_Sh sx_sk h1 → mi_f h1 9859 = (12 : Int) → ab_Fr [(9859, 9860)] h h1 → Q none h1)) (k1 : (((0 : Int)) ≤ zz) → (∀ h1, ab_Sh sx_sk h1 → mi_f h1 9859 = zc → ab_Fr [(9859, 9860)] h h1 → Q none h1)) : me_E (d + 9) 39 76 [some (.inr (.inr 77)), some (.inl (zc))] [.inl (zz)] h Q := Or.elim (mi_em .lt (zz) (((0 : Int)))) (fun c0 => ms_tcB_0 hS ok_zc ok_zz (c0) (fun h1 W => (k0 c0) h1 W.1 (W.2.1 9859) (W.2.2.2.2.2 _ rfl))) (fun c0 => ms_tcB_1 hS ok_zc ok_zz (c0) (fun h1 W => (k1 c0) h1 W.1 (W.2.1 9859) (W.2.2.2.2.2 _ rfl)))
set_option maxRecDepth 20000 in
theorem mp_ixA_0 (h : sm_H) (d : Nat) (zc zf zt : Int) : mj_path [(44, (6, 1, sb_44))] sx_sk h 5 [] (d, 44, 0, [some (.inr (.inr 33)), some (.inl (zc)), some (.inl (zf)), some (.inl (zt)), none, none], [], [], []) = some ((d, 44, 7, [some (.inr (.inr 33)), some (.inl (zc)), some (.inl (zf)), some (.inl (zt)), some (.inl (zc)), some (.inl (zf))], [], [], []), [-128 ≤ zc ∧ zc ≤ 127]) := rfl
theorem mi_tab_ixA_0 : ∀ e ∈ ([(44, (6, 1, sb_44))] : mi_T), sc_P e.1 = some e.2 := mi_tb mi_P44 (mi_tb_e)
set_option maxRecDepth 20000 in
theorem ms_ixA_0 {h : sm_H} {d : Nat} {Q : Option mi_V → sm_H → Prop} {zc zf zt : Int} (hS : ab_Sh sx_sk h) (ok_zc : mi_in zc) (ok_zf : mi_in zf) (ok_zt : mi_in zt) (ho : (-128 ≤ zc ∧ zc ≤ 127)) (kon : ∀ h1, me_W [] h h1 → me_E (d) 44 7 [some (.inr (.inr 33)), some (.inl (zc)), some (.inl (zf)), some (.inl (zt)), some (.inl (zc)), some (.inl (zf))] [] h1 Q) : me_E (d) 44 0 [some (.inr (.inr 33)), some (.inl (zc)), some (.inl (zf)), some (.inl (zt)), none, none] [] h Q := mf_seg (mp_ixA_0 h d zc zf zt) (mi_tab_ixA_0) hS (mi_okL_c (trivial) (mi_okL_c (ok_zc) (mi_okL_c (ok_zf) (mi_okL_c (ok_zt) (mi_okL_n (mi_okL_n (mi_okL_e))))))) (mi_okS_e) (mi_al (ho) (mi_al_e)) (fun h1 W _ hst => kon h1 W)
set_option maxRecDepth 20000 in
theorem mt_ixA {h : sm_H} {d : Nat} {Q : Option mi_V → sm_H → Prop} {zc zf zt : Int} (hS : ab_Sh sx_sk h) (ok_zc : mi_in zc) (ok_zf : mi_in zf) (ok_zt : mi_in zt) (k0 : ((-128 ≤ zc ∧ zc ≤ 127)) ∧ (∀ h1, ab_Sh sx_sk h1 → ab_Fr [] h h1 → me_E (d) 44 7 [some (.inr (.inr 33)), some (.inl (zc)), some (.inl (zf)), some (.inl (zt)), some (.inl (zc)), some (.inl (zf))] [] h1 Q)) : me_E (d) 44 0 [some (.inr (.inr 33)), some (.inl (zc)), some (.inl (zf)), some (.inl (zt)), none, none] [] h Q := ms_ixA_0 hS ok_zc ok_zf ok_zt ((k0).1) (fun h1 W => (k0).2 h1 W.1 (W.2.2.2.2.2 _ rfl))
set_option maxRecDepth 20000 in
theorem mp_ixB_0 (h : sm_H) (d : Nat) (zc zf zt zb zi : Int) : mj_path [(44, (6, 1, sb_44))] sx_sk h 4 [1] (d, 44, 7, [some (.inr (.inr 33)), some (.inl (zc)), some (.inl (zf)), some (.inl (zt)), some (.inl (zb)), some (.inl (zi))], [], [], []) = some ((d, 44, 32, [some (.inr (.inr 33)), some (.inl (zc)), some (.inl (zf)), some (.inl (zt)), some (.inl (zb)), some (.inl (zi))], [.inl ((-1 : Int))], [], []), [zt ≤ zi]) := rfl
theorem mi_tab_ixB_0 : ∀ e ∈ ([(44, (6, 1, sb_44))] : mi_T), sc_P e.1 = some e.2 := mi_tb mi_P44 (mi_tb_e)
set_option maxRecDepth 20000 in
theorem ms_ixB_0 {h : sm_H} {d : Nat} {Q : Option mi_V → sm_H → Prop} {zc zf zt zb zi : Int} (hS : ab_Sh sx_sk h) (ok_zc : mi_in zc) (ok_zf : mi_in zf) (ok_zt : mi_in zt) (ok_zb : mi_in zb) (ok_zi : mi_in zi) (ho : (zt ≤ zi)) (kon : ∀ h1, me_W [] h h1 → Q (some (.inl ((-1 : Int)))) h1) : me_E (d) 44 7 [some (.inr (.inr 33)), some (.inl (zc)), some (.inl (zf)), some (.inl (zt)), some (.inl (zb)), some (.inl (zi))] [] h Q := mf_seg (mp_ixB_0 h d zc zf zt zb zi) (mi_tab_ixB_0) hS (mi_okL_c (trivial) (mi_okL_c (ok_zc) (mi_okL_c (ok_zf) (mi_okL_c (ok_zt) (mi_okL_c (ok_zb) (mi_okL_c (ok_zi) (mi_okL_e))))))) (mi_okS_e) (mi_al (ho) (mi_al_e)) (fun h1 W _ hst => mf_ret (M := (6, 1, sb_44)) rfl rfl rfl hst (mi_al_e) (kon h1 W))
set_option maxRecDepth 20000 in
theorem mp_ixB_1 (h : sm_H) (d : Nat) (zc zf zt zb zi : Int) : mj_path [(44, (6, 1, sb_44))] sx_sk h 10 [0, 1] (d, 44, 7, [some (.inr (.inr 33)), some (.inl (zc)), some (.inl (zf)), some (.inl (zt)), some (.inl (zb)), some (.inl (zi))], [], [], []) = some ((d, 44, 7, [some (.inr (.inr 33)), some (.inl (zc)), some (.inl (zf)), some (.inl (zt)), some (.inl (zb)), some (.inl (zi + 1))], [], [], []), [zi < zt, 0 ≤ zi ∧ zi < 8, (mi_a h 33 (Int.toNat zi)) ≠ zb, -2147483648 ≤ zi + 1 ∧ zi + 1 ≤ 2147483647]) := rfl
theorem mi_tab_ixB_1 : ∀ e ∈ ([(44, (6, 1, sb_44))] : mi_T), sc_P e.1 = some e.2 := mi_tb mi_P44 (mi_tb_e)
set_option maxRecDepth 20000 in
theorem ms_ixB_1 {h : sm_H} {d : Nat} {Q : Option mi_V → sm_H → Prop} {zc zf zt zb zi : Int} (hS : ab_Sh sx_sk h) (ok_zc : mi_in zc) (ok_zf : mi_in zf) (ok_zt : mi_in zt) (ok_zb : mi_in zb) (ok_zi : mi_in zi) (ho : (zi < zt) ∧ (0 ≤ zi ∧ zi < 8) ∧ ((mi_a h 33 (Int.toNat zi)) ≠ zb) ∧ (-2147483648 ≤ zi + 1 ∧ zi + 1 ≤ 2147483647)) (kon : ∀ h1, me_W [] h h1 → me_E (d) 44 7 [some (.inr (.inr 33)), some (.inl (zc)), some (.inl (zf)), some (.inl (zt)), some (.inl (zb)), some (.inl (zi + 1))] [] h1 Q) : me_E (d) 44 7 [some (.inr (.inr 33)), some (.inl (zc)), some (.inl (zf)), some (.inl (zt)), some (.inl (zb)), some (.inl (zi))] [] h Q := mf_seg (mp_ixB_1 h d zc zf zt zb zi) (mi_tab_ixB_1) hS (mi_okL_c (trivial) (mi_okL_c (ok_zc) (mi_okL_c (ok_zf) (mi_okL_c (ok_zt) (mi_okL_c (ok_zb) (mi_okL_c (ok_zi) (mi_okL_e))))))) (mi_okS_e) (mi_al (ho.1) (mi_al (ho.2.1) (mi_al (ho.2.2.1) (mi_al (ho.2.2.2) (mi_al_e))))) (fun h1 W _ hst => kon h1 W)
set_option maxRecDepth 20000 in
theorem mp_ixB_2 (h : sm_H) (d : Nat) (zc zf zt zb zi : Int) : mj_path [(44, (6, 1, sb_44))] sx_sk h 9 [0, 0] (d, 44, 7, [some (.inr (.inr 33)), some (.inl (zc)), some (.inl (zf)), some (.inl (zt)), some (.inl (zb)), some (.inl (zi))], [], [], []) = some ((d, 44, 24, [some (.inr (.inr 33)), some (.inl (zc)), some (.inl (zf)), some (.inl (zt)), some (.inl (zb)), some (.inl (zi))], [.inl (zi)], [], []), [zi < zt, 0 ≤ zi ∧ zi < 8, (mi_a h 33 (Int.toNat zi)) = zb]) := rfl
theorem mi_tab_ixB_2 : ∀ e ∈ ([(44, (6, 1, sb_44))] : mi_T), sc_P e.1 = some e.2 := mi_tb mi_P44 (mi_tb_e)
set_option maxRecDepth 20000 in
theorem ms_ixB_2 {h : sm_H} {d : Nat} {Q : Option mi_V → sm_H → Prop} {zc zf zt zb zi : Int} (hS : ab_Sh sx_sk h) (ok_zc : mi_in zc) (ok_zf : mi_in zf) (ok_zt : mi_in zt) (ok_zb : mi_in zb) (ok_zi : mi_in zi) (ho : (zi < zt) ∧ (0 ≤ zi ∧ zi < 8) ∧ ((mi_a h 33 (Int.toNat zi)) = zb)) (kon : ∀ h1, me_W [] h h1 → Q (some (.inl (zi))) h1) : me_E (d) 44 7 [some (.inr (.inr 33)), some (.inl (zc)), some (.inl (zf)), some (.inl (zt)), some (.inl (zb)), some (.inl (zi))] [] h Q := mf_seg (mp_ixB_2 h d zc zf zt zb zi) (mi_tab_ixB_2) hS (mi_okL_c (trivial) (mi_okL_c (ok_zc) (mi_okL_c (ok_zf) (mi_okL_c (ok_zt) (mi_okL_c (ok_zb) (mi_okL_c (ok_zi) (mi_okL_e))))))) (mi_okS_e) (mi_al (ho.1) (mi_al (ho.2.1) (mi_al (ho.2.2) (mi_al_e)))) (fun h1 W _ hst => mf_ret (M := (6, 1, sb_44)) rfl rfl rfl hst (mi_al_e) (kon h1 W))
set_option maxRecDepth 20000 in
theorem mt_ixB {h : sm_H} {d : Nat} {Q : Option mi_V → sm_H → Prop} {zc zf zt zb zi : Int} (hS : ab_Sh sx_sk h) (ok_zc : mi_in zc) (ok_zf : mi_in zf) (ok_zt : mi_in zt) (ok_zb : mi_in zb) (ok_zi : mi_in zi) (k0 : (zt ≤ zi) → (∀ h1, ab_Sh sx_sk h1 → ab_Fr [] h h1 → Q (some (.inl ((-1 : Int)))) h1)) (k1 : (zi < zt) → ((mi_a h 33 (Int.toNat zi)) ≠ zb) → ((0 ≤ zi ∧ zi < 8) ∧ (-2147483648 ≤ zi + 1 ∧ zi + 1 ≤ 2147483647)) ∧ (∀ h1, ab_Sh sx_sk h1 → ab_Fr [] h h1 → me_E (d) 44 7 [some (.inr (.inr 33)), some (.inl (zc)), some (.inl (zf)), some (.inl (zt)), some (.inl (zb)), some (.inl (zi + 1))] [] h1 Q)) (k2 : (zi < zt) → ((mi_a h 33 (Int.toNat zi)) = zb) → ((0 ≤ zi ∧ zi < 8)) ∧ (∀ h1, ab_Sh sx_sk h1 → ab_Fr [] h h1 → Q (some (.inl (zi))) h1)) : me_E (d) 44 7 [some (.inr (.inr 33)), some (.inl (zc)), some (.inl (zf)), some (.inl (zt)), some (.inl (zb)), some (.inl (zi))] [] h Q := Or.elim (mi_em .ge (zi) (zt)) (fun c0 => ms_ixB_0 hS ok_zc ok_zf ok_zt ok_zb ok_zi (c0) (fun h1 W => (k0 c0) h1 W.1 (W.2.2.2.2.2 _ rfl))) (fun c0 => Or.elim (mi_em .ne ((mi_a h 33 (Int.toNat zi))) (zb)) (fun c1 => ms_ixB_1 hS ok_zc ok_zf ok_zt ok_zb ok_zi ⟨c0, (k1 c0 c1).1.1, c1, (k1 c0 c1).1.2⟩ (fun h1 W => (k1 c0 c1).2 h1 W.1 (W.2.2.2.2.2 _ rfl))) (fun c1 => ms_ixB_2 hS ok_zc ok_zf ok_zt ok_zb ok_zi ⟨c0, (k2 c0 c1).1, c1⟩ (fun h1 W => (k2 c0 c1).2 h1 W.1 (W.2.2.2.2.2 _ rfl))))
set_option maxRecDepth 20000 in
theorem mp_iyA_0 (h : sm_H) (d : Nat) (zc zf zt : Int) : mj_path [(42, (4, 1, sb_42))] sx_sk h 1 [] (d + 6, 42, 0, [some (.inr (.inr 33)), some (.inl (zc)), some (.inl (zf)), some (.inl (zt))], [], [], []) = some ((d + 6, 42, 1, [some (.inr (.inr 33)), some (.inl (zc)), some (.inl (zf)), some (.inl (zt))], [.inl (zc)], [], []), []) := rfl
theorem mi_tab_iyA_0 : ∀ e ∈ ([(42, (4, 1, sb_42))] : mi_T), sc_P e.1 = some e.2 := mi_tb mi_P42 (mi_tb_e)
set_option maxRecDepth 20000 in
theorem ms_iyA_0 {h : sm_H} {d : Nat} {Q : Option mi_V → sm_H → Prop} {zc zf zt : Int} (hS : ab_Sh sx_sk h) (ok_zc : mi_in zc) (ok_zf : mi_in zf) (ok_zt : mi_in zt) (kon : ∀ h1, me_W [] h h1 → ∃ Q1, me_E (d + 5) 43 0 (mi_entry 1 [.inl (zc)]) [] h1 Q1 ∧ ∀ w h2, (∀ x, w = some x → mi_ok x) → Q1 w h2 → me_E (d + 6) 42 4 [some (.inr (.inr 33)), some (.inl (zc)), some (.inl (zf)), some (.inl (zt))] (mi_back w []) h2 Q) : me_E (d + 6) 42 0 [some (.inr (.inr 33)), some (.inl (zc)), some (.inl (zf)), some (.inl (zt))] [] h Q := mf_seg (mp_iyA_0 h d zc zf zt) (mi_tab_iyA_0) hS (mi_okL_c (trivial) (mi_okL_c (ok_zc) (mi_okL_c (ok_zf) (mi_okL_c (ok_zt) (mi_okL_e))))) (mi_okS_e) (mi_al_e) (fun h1 W _ hst => let ⟨_, k1, k2⟩ := kon h1 W; mf_call (M := (4, 1, sb_42)) (M' := (1, 4, sb_43)) rfl rfl rfl rfl (Nat.le_of_ble_eq_true rfl) (Nat.le_of_ble_eq_true rfl) W.1 k1 k2)
set_option maxRecDepth 20000 in
theorem mt_iyA {h : sm_H} {d : Nat} {Q : Option mi_V → sm_H → Prop} {zc zf zt : Int} (hS : ab_Sh sx_sk h) (ok_zc : mi_in zc) (ok_zf : mi_in zf) (ok_zt : mi_in zt) (k0 : (∀ h1, ab_Sh sx_sk h1 → ab_Fr [] h h1 → ∃ Q1, me_E (d + 5) 43 0 (mi_entry 1 [.inl (zc)]) [] h1 Q1 ∧ ∀ w h2, (∀ x, w = some x → mi_ok x) → Q1 w h2 → me_E (d + 6) 42 4 [some (.inr (.inr 33)), some (.inl (zc)), some (.inl (zf)), some (.inl (zt))] (mi_back w []) h2 Q)) : me_E (d + 6) 42 0 [some (.inr (.inr 33)), some (.inl (zc)), some (.inl (zf)), some (.inl (zt))] [] h Q := ms_iyA_0 hS ok_zc ok_zf ok_zt (fun h1 W => (k0) h1 W.1 (W.2.2.2.2.2 _ rfl))
set_option maxRecDepth 20000 in
theorem mp_iyB_0 (h : sm_H) (d : Nat) (zc zf zt zz : Int) : mj_path [(42, (4, 1, sb_42))] sx_sk h 17 [1, 1, 1, 1] (d + 6, 42, 4, [some (.inr (.inr 33)), some (.inl (zc)), some (.inl (zf)), some (.inl (zt))], [.inl (zz)], [], []) = some ((d + 6, 42, 33, [some (.inr (.inr 33)), some (.inl (zc)), some (.inl ((0 : Int))), some (.inl ((8 : Int)))], [.inl ((8 : Int)), .inl ((0 : Int)), .inl (zc), .inr (.inr 33)], [], []), [zz ≠ ((0 : Int)), zf < ((0 : Int)), ((8 : Int)) < zt, ((0 : Int)) < ((8 : Int))]) := rfl
theorem mi_tab_iyB_0 : ∀ e ∈ ([(42, (4, 1, sb_42))] : mi_T), sc_P e.1 = some e.2 := mi_tb mi_P42 (mi_tb_e)
set_option maxRecDepth 20000 in
theorem ms_iyB_0 {h : sm_H} {d : Nat} {Q : Option mi_V → sm_H → Prop} {zc zf zt zz : Int} (hS : ab_Sh sx_sk h) (ok_zc : mi_in zc) (ok_zf : mi_in zf) (ok_zt : mi_in zt) (ok_zz : mi_in zz) (ho : (zz ≠ ((0 : Int))) ∧ (zf < ((0 : Int))) ∧ (((8 : Int)) < zt) ∧ (((0 : Int)) < ((8 : Int)))) (kon : ∀ h1, me_W [] h h1 → ∃ Q1, me_E (d + 5) 44 0 (mi_entry 6 [.inr (.inr 33), .inl (zc), .inl ((0 : Int)), .inl ((8 : Int))]) [] h1 Q1 ∧ ∀ w h2, (∀ x, w = some x → mi_ok x) → Q1 w h2 → me_E (d + 6) 42 36 [some (.inr (.inr 33)), some (.inl (zc)), some (.inl ((0 : Int))), some (.inl ((8 : Int)))] (mi_back w []) h2 Q) : me_E (d + 6) 42 4 [some (.inr (.inr 33)), some (.inl (zc)), some (.inl (zf)), some (.inl (zt))] [.inl (zz)] h Q := mf_seg (mp_iyB_0 h d zc zf zt zz) (mi_tab_iyB_0) hS (mi_okL_c (trivial) (mi_okL_c (ok_zc) (mi_okL_c (ok_zf) (mi_okL_c (ok_zt) (mi_okL_e))))) (mi_okS_cons (ok_zz) (mi_okS_e)) (mi_al (ho.1) (mi_al (ho.2.1) (mi_al (ho.2.2.1) (mi_al (ho.2.2.2) (mi_al_e))))) (fun h1 W _ hst => let ⟨_, k1, k2⟩ := kon h1 W; mf_call (M := (4, 1, sb_42)) (M' := (6, 1, sb_44)) rfl rfl rfl rfl (Nat.le_of_ble_eq_true rfl) (Nat.le_of_ble_eq_true rfl) W.1 k1 k2)
set_option maxRecDepth 20000 in
theorem mp_iyB_1 (h : sm_H) (d : Nat) (zc zf zt zz : Int) : mj_path [(42, (4, 1, sb_42))] sx_sk h 17 [1, 1, 0, 1] (d + 6, 42, 4, [some (.inr (.inr 33)), some (.inl (zc)), some (.inl (zf)), some (.inl (zt))], [.inl (zz)], [], []) = some ((d + 6, 42, 33, [some (.inr (.inr 33)), some (.inl (zc)), some (.inl ((0 : Int))), some (.inl (zt))], [.inl (zt), .inl ((0 : Int)), .inl (zc), .inr (.inr 33)], [], []), [zz ≠ ((0 : Int)), zf < ((0 : Int)), zt ≤ ((8 : Int)), ((0 : Int)) < zt]) := rfl
theorem mi_tab_iyB_1 : ∀ e ∈ ([(42, (4, 1, sb_42))] : mi_T), sc_P e.1 = some e.2 := mi_tb mi_P42 (mi_tb_e)
set_option maxRecDepth 20000 in
theorem ms_iyB_1 {h : sm_H} {d : Nat} {Q : Option mi_V → sm_H → Prop} {zc zf zt zz : Int} (hS : ab_Sh sx_sk h) (ok_zc : mi_in zc) (ok_zf : mi_in zf) (ok_zt : mi_in zt) (ok_zz : mi_in zz) (ho : (zz ≠ ((0 : Int))) ∧ (zf < ((0 : Int))) ∧ (zt ≤ ((8 : Int))) ∧ (((0 : Int)) < zt)) (kon : ∀ h1, me_W [] h h1 → ∃ Q1, me_E (d + 5) 44 0 (mi_entry 6 [.inr (.inr 33), .inl (zc), .inl ((0 : Int)), .inl (zt)]) [] h1 Q1 ∧ ∀ w h2, (∀ x, w = some x → mi_ok x) → Q1 w h2 → me_E (d + 6) 42 36 [some (.inr (.inr 33)), some (.inl (zc)), some (.inl ((0 : Int))), some (.inl (zt))] (mi_back w []) h2 Q) : me_E (d + 6) 42 4 [some (.inr (.inr 33)), some (.inl (zc)), some (.inl (zf)), some (.inl (zt))] [.inl (zz)] h Q := mf_seg (mp_iyB_1 h d zc zf zt zz) (mi_tab_iyB_1) hS (mi_okL_c (trivial) (mi_okL_c (ok_zc) (mi_okL_c (ok_zf) (mi_okL_c (ok_zt) (mi_okL_e))))) (mi_okS_cons (ok_zz) (mi_okS_e)) (mi_al (ho.1) (mi_al (ho.2.1) (mi_al (ho.2.2.1) (mi_al (ho.2.2.2) (mi_al_e))))) (fun h1 W _ hst => let ⟨_, k1, k2⟩ := kon h1 W; mf_call (M := (4, 1, sb_42)) (M' := (6, 1, sb_44)) rfl rfl rfl rfl (Nat.le_of_ble_eq_true rfl) (Nat.le_of_ble_eq_true rfl) W.1 k1 k2)
set_option maxRecDepth 20000 in
theorem mp_iyB_2 (h : sm_H) (d : Nat) (zc zf zt zz : Int) : mj_path [(42, (4, 1, sb_42))] sx_sk h 14 [1, 1, 0, 0] (d + 6, 42, 4, [some (.inr (.inr 33)), some (.inl (zc)), some (.inl (zf)), some (.inl (zt))], [.inl (zz)], [], []) = some ((d + 6, 42, 28, [some (.inr (.inr 33)), some (.inl (zc)), some (.inl ((0 : Int))), some (.inl (zt))], [.inl ((-1 : Int))], [], []), [zz ≠ ((0 : Int)), zf < ((0 : Int)), zt ≤ ((8 : Int)), zt ≤ ((0 : Int))]) := rfl
theorem mi_tab_iyB_2 : ∀ e ∈ ([(42, (4, 1, sb_42))] : mi_T), sc_P e.1 = some e.2 := mi_tb mi_P42 (mi_tb_e)
set_option maxRecDepth 20000 in
theorem ms_iyB_2 {h : sm_H} {d : Nat} {Q : Option mi_V → sm_H → Prop} {zc zf zt zz : Int} (hS : ab_Sh sx_sk h) (ok_zc : mi_in zc) (ok_zf : mi_in zf) (ok_zt : mi_in zt) (ok_zz : mi_in zz) (ho : (zz ≠ ((0 : Int))) ∧ (zf < ((0 : Int))) ∧ (zt ≤ ((8 : Int))) ∧ (zt ≤ ((0 : Int)))) (kon : ∀ h1, me_W [] h h1 → Q (some (.inl ((-1 : Int)))) h1) : me_E (d + 6) 42 4 [some (.inr (.inr 33)), some (.inl (zc)), some (.inl (zf)), some (.inl (zt))] [.inl (zz)] h Q := mf_seg (mp_iyB_2 h d zc zf zt zz) (mi_tab_iyB_2) hS (mi_okL_c (trivial) (mi_okL_c (ok_zc) (mi_okL_c (ok_zf) (mi_okL_c (ok_zt) (mi_okL_e))))) (mi_okS_cons (ok_zz) (mi_okS_e)) (mi_al (ho.1) (mi_al (ho.2.1) (mi_al (ho.2.2.1) (mi_al (ho.2.2.2) (mi_al_e))))) (fun h1 W _ hst => mf_ret (M := (4, 1, sb_42)) rfl rfl rfl hst (mi_al_e) (kon h1 W))
set_option maxRecDepth 20000 in
theorem mp_iyB_3 (h : sm_H) (d : Nat) (zc zf zt zz : Int) : mj_path [(42, (4, 1, sb_42))] sx_sk h 17 [1, 0, 1, 1] (d + 6, 42, 4, [some (.inr (.inr 33)), some (.inl (zc)), some (.inl (zf)), some (.inl (zt))], [.inl (zz)], [], []) = some ((d + 6, 42, 33, [some (.inr (.inr 33)), some (.inl (zc)), some (.inl (zf)), some (.inl ((8 : Int)))], [.inl ((8 : Int)), .inl (zf), .inl (zc), .inr (.inr 33)], [], []), [zz ≠ ((0 : Int)), ((0 : Int)) ≤ zf, ((8 : Int)) < zt, zf < ((8 : Int))]) := rfl
theorem mi_tab_iyB_3 : ∀ e ∈ ([(42, (4, 1, sb_42))] : mi_T), sc_P e.1 = some e.2 := mi_tb mi_P42 (mi_tb_e)
set_option maxRecDepth 20000 in
theorem ms_iyB_3 {h : sm_H} {d : Nat} {Q : Option mi_V → sm_H → Prop} {zc zf zt zz : Int} (hS : ab_Sh sx_sk h) (ok_zc : mi_in zc) (ok_zf : mi_in zf) (ok_zt : mi_in zt) (ok_zz : mi_in zz) (ho : (zz ≠ ((0 : Int))) ∧ (((0 : Int)) ≤ zf) ∧ (((8 : Int)) < zt) ∧ (zf < ((8 : Int)))) (kon : ∀ h1, me_W [] h h1 → ∃ Q1, me_E (d + 5) 44 0 (mi_entry 6 [.inr (.inr 33), .inl (zc), .inl (zf), .inl ((8 : Int))]) [] h1 Q1 ∧ ∀ w h2, (∀ x, w = some x → mi_ok x) → Q1 w h2 → me_E (d + 6) 42 36 [some (.inr (.inr 33)), some (.inl (zc)), some (.inl (zf)), some (.inl ((8 : Int)))] (mi_back w []) h2 Q) : me_E (d + 6) 42 4 [some (.inr (.inr 33)), some (.inl (zc)), some (.inl (zf)), some (.inl (zt))] [.inl (zz)] h Q := mf_seg (mp_iyB_3 h d zc zf zt zz) (mi_tab_iyB_3) hS (mi_okL_c (trivial) (mi_okL_c (ok_zc) (mi_okL_c (ok_zf) (mi_okL_c (ok_zt) (mi_okL_e))))) (mi_okS_cons (ok_zz) (mi_okS_e)) (mi_al (ho.1) (mi_al (ho.2.1) (mi_al (ho.2.2.1) (mi_al (ho.2.2.2) (mi_al_e))))) (fun h1 W _ hst => let ⟨_, k1, k2⟩ := kon h1 W; mf_call (M := (4, 1, sb_42)) (M' := (6, 1, sb_44)) rfl rfl rfl rfl (Nat.le_of_ble_eq_true rfl) (Nat.le_of_ble_eq_true rfl) W.1 k1 k2)
set_option maxRecDepth 20000 in
theorem mp_iyB_4 (h : sm_H) (d : Nat) (zc zf zt zz : Int) : mj_path [(42, (4, 1, sb_42))] sx_sk h 14 [1, 0, 1, 0] (d + 6, 42, 4, [some (.inr (.inr 33)), some (.inl (zc)), some (.inl (zf)), some (.inl (zt))], [.inl (zz)], [], []) = some ((d + 6, 42, 28, [some (.inr (.inr 33)), some (.inl (zc)), some (.inl (zf)), some (.inl ((8 : Int)))], [.inl ((-1 : Int))], [], []), [zz ≠ ((0 : Int)), ((0 : Int)) ≤ zf, ((8 : Int)) < zt, ((8 : Int)) ≤ zf]) := rfl
theorem mi_tab_iyB_4 : ∀ e ∈ ([(42, (4, 1, sb_42))] : mi_T), sc_P e.1 = some e.2 := mi_tb mi_P42 (mi_tb_e)
set_option maxRecDepth 20000 in
theorem ms_iyB_4 {h : sm_H} {d : Nat} {Q : Option mi_V → sm_H → Prop} {zc zf zt zz : Int} (hS : ab_Sh sx_sk h) (ok_zc : mi_in zc) (ok_zf : mi_in zf) (ok_zt : mi_in zt) (ok_zz : mi_in zz) (ho : (zz ≠ ((0 : Int))) ∧ (((0 : Int)) ≤ zf) ∧ (((8 : Int)) < zt) ∧ (((8 : Int)) ≤ zf)) (kon : ∀ h1, me_W [] h h1 → Q (some (.inl ((-1 : Int)))) h1) : me_E (d + 6) 42 4 [some (.inr (.inr 33)), some (.inl (zc)), some (.inl (zf)), some (.inl (zt))] [.inl (zz)] h Q := mf_seg (mp_iyB_4 h d zc zf zt zz) (mi_tab_iyB_4) hS (mi_okL_c (trivial) (mi_okL_c (ok_zc) (mi_okL_c (ok_zf) (mi_okL_c (ok_zt) (mi_okL_e))))) (mi_okS_cons (ok_zz) (mi_okS_e)) (mi_al (ho.1) (mi_al (ho.2.1) (mi_al (ho.2.2.1) (mi_al (ho.2.2.2) (mi_al_e))))) (fun h1 W _ hst => mf_ret (M := (4, 1, sb_42)) rfl rfl rfl hst (mi_al_e) (kon h1 W))
set_option maxRecDepth 20000 in
theorem mp_iyB_5 (h : sm_H) (d : Nat) (zc zf zt zz : Int) : mj_path [(42, (4, 1, sb_42))] sx_sk h 17 [1, 0, 0, 1] (d + 6, 42, 4, [some (.inr (.inr 33)), some (.inl (zc)), some (.inl (zf)), some (.inl (zt))], [.inl (zz)], [], []) = some ((d + 6, 42, 33, [some (.inr (.inr 33)), some (.inl (zc)), some (.inl (zf)), some (.inl (zt))], [.inl (zt), .inl (zf), .inl (zc), .inr (.inr 33)], [], []), [zz ≠ ((0 : Int)), ((0 : Int)) ≤ zf, zt ≤ ((8 : Int)), zf < zt]) := rfl
theorem mi_tab_iyB_5 : ∀ e ∈ ([(42, (4, 1, sb_42))] : mi_T), sc_P e.1 = some e.2 := mi_tb mi_P42 (mi_tb_e)
set_option maxRecDepth 20000 in
theorem ms_iyB_5 {h : sm_H} {d : Nat} {Q : Option mi_V → sm_H → Prop} {zc zf zt zz : Int} (hS : ab_Sh sx_sk h) (ok_zc : mi_in zc) (ok_zf : mi_in zf) (ok_zt : mi_in zt) (ok_zz : mi_in zz) (ho : (zz ≠ ((0 : Int))) ∧ (((0 : Int)) ≤ zf) ∧ (zt ≤ ((8 : Int))) ∧ (zf < zt)) (kon : ∀ h1, me_W [] h h1 → ∃ Q1, me_E (d + 5) 44 0 (mi_entry 6 [.inr (.inr 33), .inl (zc), .inl (zf), .inl (zt)]) [] h1 Q1 ∧ ∀ w h2, (∀ x, w = some x → mi_ok x) → Q1 w h2 → me_E (d + 6) 42 36 [some (.inr (.inr 33)), some (.inl (zc)), some (.inl (zf)), some (.inl (zt))] (mi_back w []) h2 Q) : me_E (d + 6) 42 4 [some (.inr (.inr 33)), some (.inl (zc)), some (.inl (zf)), some (.inl (zt))] [.inl (zz)] h Q := mf_seg (mp_iyB_5 h d zc zf zt zz) (mi_tab_iyB_5) hS (mi_okL_c (trivial) (mi_okL_c (ok_zc) (mi_okL_c (ok_zf) (mi_okL_c (ok_zt) (mi_okL_e))))) (mi_okS_cons (ok_zz) (mi_okS_e)) (mi_al (ho.1) (mi_al (ho.2.1) (mi_al (ho.2.2.1) (mi_al (ho.2.2.2) (mi_al_e))))) (fun h1 W _ hst => let ⟨_, k1, k2⟩ := kon h1 W; mf_call (M := (4, 1, sb_42)) (M' := (6, 1, sb_44)) rfl rfl rfl rfl (Nat.le_of_ble_eq_true rfl) (Nat.le_of_ble_eq_true rfl) W.1 k1 k2)
set_option maxRecDepth 20000 in
theorem mp_iyB_6 (h : sm_H) (d : Nat) (zc zf zt zz : Int) : mj_path [(42, (4, 1, sb_42))] sx_sk h 14 [1, 0, 0, 0] (d + 6, 42, 4, [some (.inr (.inr 33)), some (.inl (zc)), some (.inl (zf)), some (.inl (zt))], [.inl (zz)], [], []) = some ((d + 6, 42, 28, [some (.inr (.inr 33)), some (.inl (zc)), some (.inl (zf)), some (.inl (zt))], [.inl ((-1 : Int))], [], []), [zz ≠ ((0 : Int)), ((0 : Int)) ≤ zf, zt ≤ ((8 : Int)), zt ≤ zf]) := rfl
theorem mi_tab_iyB_6 : ∀ e ∈ ([(42, (4, 1, sb_42))] : mi_T), sc_P e.1 = some e.2 := mi_tb mi_P42 (mi_tb_e)
set_option maxRecDepth 20000 in
theorem ms_iyB_6 {h : sm_H} {d : Nat} {Q : Option mi_V → sm_H → Prop} {zc zf zt zz : Int} (hS : ab_Sh sx_sk h) (ok_zc : mi_in zc) (ok_zf : mi_in zf) (ok_zt : mi_in zt) (ok_zz : mi_in zz) (ho : (zz ≠ ((0 : Int))) ∧ (((0 : Int)) ≤ zf) ∧ (zt ≤ ((8 : Int))) ∧ (zt ≤ zf)) (kon : ∀ h1, me_W [] h h1 → Q (some (.inl ((-1 : Int)))) h1) : me_E (d + 6) 42 4 [some (.inr (.inr 33)), some (.inl (zc)), some (.inl (zf)), some (.inl (zt))] [.inl (zz)] h Q := mf_seg (mp_iyB_6 h d zc zf zt zz) (mi_tab_iyB_6) hS (mi_okL_c (trivial) (mi_okL_c (ok_zc) (mi_okL_c (ok_zf) (mi_okL_c (ok_zt) (mi_okL_e))))) (mi_okS_cons (ok_zz) (mi_okS_e)) (mi_al (ho.1) (mi_al (ho.2.1) (mi_al (ho.2.2.1) (mi_al (ho.2.2.2) (mi_al_e))))) (fun h1 W _ hst => mf_ret (M := (4, 1, sb_42)) rfl rfl rfl hst (mi_al_e) (kon h1 W))
set_option maxRecDepth 20000 in
theorem mp_iyB_7 (h : sm_H) (d : Nat) (zc zf zt zz : Int) : mj_path [(42, (4, 1, sb_42))] sx_sk h 2 [0] (d + 6, 42, 4, [some (.inr (.inr 33)), some (.inl (zc)), some (.inl (zf)), some (.inl (zt))], [.inl (zz)], [], []) = some ((d + 6, 42, 8, [some (.inr (.inr 33)), some (.inl (zc)), some (.inl (zf)), some (.inl (zt))], [.inl ((-1 : Int))], [], []), [zz = ((0 : Int))]) := rfl
theorem mi_tab_iyB_7 : ∀ e ∈ ([(42, (4, 1, sb_42))] : mi_T), sc_P e.1 = some e.2 := mi_tb mi_P42 (mi_tb_e)
set_option maxRecDepth 20000 in
theorem ms_iyB_7 {h : sm_H} {d : Nat} {Q : Option mi_V → sm_H → Prop} {zc zf zt zz : Int} (hS : ab_Sh sx_sk h) (ok_zc : mi_in zc) (ok_zf : mi_in zf) (ok_zt : mi_in zt) (ok_zz : mi_in zz) (ho : (zz = ((0 : Int)))) (kon : ∀ h1, me_W [] h h1 → Q (some (.inl ((-1 : Int)))) h1) : me_E (d + 6) 42 4 [some (.inr (.inr 33)), some (.inl (zc)), some (.inl (zf)), some (.inl (zt))] [.inl (zz)] h Q := mf_seg (mp_iyB_7 h d zc zf zt zz) (mi_tab_iyB_7) hS (mi_okL_c (trivial) (mi_okL_c (ok_zc) (mi_okL_c (ok_zf) (mi_okL_c (ok_zt) (mi_okL_e))))) (mi_okS_cons (ok_zz) (mi_okS_e)) (mi_al (ho) (mi_al_e)) (fun h1 W _ hst => mf_ret (M := (4, 1, sb_42)) rfl rfl rfl hst (mi_al_e) (kon h1 W))
set_option maxRecDepth 20000 in
theorem mt_iyB {h : sm_H} {d : Nat} {Q : Option mi_V → sm_H → Prop} {zc zf zt zz : Int} (hS : ab_Sh sx_sk h) (ok_zc : mi_in zc) (ok_zf : mi_in zf) (ok_zt : mi_in zt) (ok_zz : mi_in zz) (k0 : (zz ≠ ((0 : Int))) → (zf < ((0 : Int))) → (((8 : Int)) < zt) → (∀ h1, ab_Sh sx_sk h1 → ab_Fr [] h h1 → ∃ Q1, me_E (d + 5) 44 0 (mi_entry 6 [.inr (.inr 33), .inl (zc), .inl ((0 : Int)), .inl ((8 : Int))]) [] h1 Q1 ∧ ∀ w h2, (∀ x, w = some x → mi_ok x) → Q1 w h2 → me_E (d + 6) 42 36 [some (.inr (.inr 33)), some (.inl (zc)), some (.inl ((0 : Int))), some (.inl ((8 : Int)))] (mi_back w []) h2 Q)) (k1 : (zz ≠ ((0 : Int))) → (zf < ((0 : Int))) → (zt ≤ ((8 : Int))) → (((0 : Int)) < zt) → (∀ h1, ab_Sh sx_sk h1 → ab_Fr [] h h1 → ∃ Q1, me_E (d + 5) 44 0 (mi_entry 6 [.inr (.inr 33), .inl (zc), .inl ((0 : Int)), .inl (zt)]) [] h1 Q1 ∧ ∀ w h2, (∀ x, w = some x → mi_ok x) → Q1 w h2 → me_E (d + 6) 42 36 [some (.inr (.inr 33)), some (.inl (zc)), some (.inl ((0 : Int))), some (.inl (zt))] (mi_back w []) h2 Q)) (k2 : (zz ≠ ((0 : Int))) → (zf < ((0 : Int))) → (zt ≤ ((8 : Int))) → (zt ≤ ((0 : Int))) → (∀ h1, ab_Sh sx_sk h1 → ab_Fr [] h h1 → Q (some (.inl ((-1 : Int)))) h1)) (k3 : (zz ≠ ((0 : Int))) → (((0 : Int)) ≤ zf) → (((8 : Int)) < zt) → (zf < ((8 : Int))) → (∀ h1, ab_Sh sx_sk h1 → ab_Fr [] h h1 → ∃ Q1, me_E (d + 5) 44 0 (mi_entry 6 [.inr (.inr 33), .inl (zc), .inl (zf), .inl ((8 : Int))]) [] h1 Q1 ∧ ∀ w h2, (∀ x, w = some x → mi_ok x) → Q1 w h2 → me_E (d + 6) 42 36 [some (.inr (.inr 33)), some (.inl (zc)), some (.inl (zf)), some (.inl ((8 : Int)))] (mi_back w []) h2 Q)) (k4 : (zz ≠ ((0 : Int))) → (((0 : Int)) ≤ zf) → (((8 : Int)) < zt) → (((8 : Int)) ≤ zf) → (∀ h1, ab_Sh sx_sk h1 → ab_Fr [] h h1 → Q (some (.inl ((-1 : Int)))) h1)) (k5 : (zz ≠ ((0 : Int))) → (((0 : Int)) ≤ zf) → (zt ≤ ((8 : Int))) → (zf < zt) → (∀ h1, ab_Sh sx_sk h1 → ab_Fr [] h h1 → ∃ Q1, me_E (d + 5) 44 0 (mi_entry 6 [.inr (.inr 33), .inl (zc), .inl (zf), .inl (zt)]) [] h1 Q1 ∧ ∀ w h2, (∀ x, w = some x → mi_ok x) → Q1 w h2 → me_E (d + 6) 42 36 [some (.inr (.inr 33)), some (.inl (zc)), some (.inl (zf)), some (.inl (zt))] (mi_back w []) h2 Q)) (k6 : (zz ≠ ((0 : Int))) → (((0 : Int)) ≤ zf) → (zt ≤ ((8 : Int))) → (zt ≤ zf) → (∀ h1, ab_Sh sx_sk h1 → ab_Fr [] h h1 → Q (some (.inl ((-1 : Int)))) h1)) (k7 : (zz = ((0 : Int))) → (∀ h1, ab_Sh sx_sk h1 → ab_Fr [] h h1 → Q (some (.inl ((-1 : Int)))) h1)) : me_E (d + 6) 42 4 [some (.inr (.inr 33)), some (.inl (zc)), some (.inl (zf)), some (.inl (zt))] [.inl (zz)] h Q := Or.elim (mi_em .ne (zz) (((0 : Int)))) (fun c0 => Or.elim (mi_em .lt (zf) (((0 : Int)))) (fun c1 => Or.elim (mi_em .gt (zt) (((8 : Int)))) (fun c2 => ms_iyB_0 hS ok_zc ok_zf ok_zt ok_zz ⟨c0, c1, c2, (by decide)⟩ (fun h1 W => (k0 c0 c1 c2) h1 W.1 (W.2.2.2.2.2 _ rfl))) (fun c2 => Or.elim (mi_em .lt (((0 : Int))) (zt)) (fun c3 => ms_iyB_1 hS ok_zc ok_zf ok_zt ok_zz ⟨c0, c1, c2, c3⟩ (fun h1 W => (k1 c0 c1 c2 c3) h1 W.1 (W.2.2.2.2.2 _ rfl))) (fun c3 => ms_iyB_2 hS ok_zc ok_zf ok_zt ok_zz ⟨c0, c1, c2, c3⟩ (fun h1 W => (k2 c0 c1 c2 c3) h1 W.1 (W.2.2.2.2.2 _ rfl))))) (fun c1 => Or.elim (mi_em .gt (zt) (((8 : Int)))) (fun c2 => Or.elim (mi_em .lt (zf) (((8 : Int)))) (fun c3 => ms_iyB_3 hS ok_zc ok_zf ok_zt ok_zz ⟨c0, c1, c2, c3⟩ (fun h1 W => (k3 c0 c1 c2 c3) h1 W.1 (W.2.2.2.2.2 _ rfl))) (fun c3 => ms_iyB_4 hS ok_zc ok_zf ok_zt ok_zz ⟨c0, c1, c2, c3⟩ (fun h1 W => (k4 c0 c1 c2 c3) h1 W.1 (W.2.2.2.2.2 _ rfl)))) (fun c2 => Or.elim (mi_em .lt (zf) (zt)) (fun c3 => ms_iyB_5 hS ok_zc ok_zf ok_zt ok_zz ⟨c0, c1, c2, c3⟩ (fun h1 W => (k5 c0 c1 c2 c3) h1 W.1 (W.2.2.2.2.2 _ rfl))) (fun c3 => ms_iyB_6 hS ok_zc ok_zf ok_zt ok_zz ⟨c0, c1, c2, c3⟩ (fun h1 W => (k6 c0 c1 c2 c3) h1 W.1 (W.2.2.2.2.2 _ rfl)))))) (fun c0 => ms_iyB_7 hS ok_zc ok_zf ok_zt ok_zz (c0) (fun h1 W => (k7 c0) h1 W.1 (W.2.2.2.2.2 _ rfl)))
set_option maxRecDepth 20000 in
theorem mp_iyC_0 (h : sm_H) (d : Nat) (zc zf zt zz : Int) : mj_path [(42, (4, 1, sb_42))] sx_sk h 0 [] (d + 6, 42, 36, [some (.inr (.inr 33)), some (.inl (zc)), some (.inl (zf)), some (.inl (zt))], [.inl (zz)], [], []) = some ((d + 6, 42, 36, [some (.inr (.inr 33)), some (.inl (zc)), some (.inl (zf)), some (.inl (zt))], [.inl (zz)], [], []), []) := rfl
theorem mi_tab_iyC_0 : ∀ e ∈ ([(42, (4, 1, sb_42))] : mi_T), sc_P e.1 = some e.2 := mi_tb mi_P42 (mi_tb_e)
set_option maxRecDepth 20000 in
theorem ms_iyC_0 {h : sm_H} {d : Nat} {Q : Option mi_V → sm_H → Prop} {zc zf zt zz : Int} (hS : ab_Sh sx_sk h) (ok_zc : mi_in zc) (ok_zf : mi_in zf) (ok_zt : mi_in zt) (ok_zz : mi_in zz) (kon : ∀ h1, me_W [] h h1 → Q (some (.inl (zz))) h1) : me_E (d + 6) 42 36 [some (.inr (.inr 33)), some (.inl (zc)), some (.inl (zf)), some (.inl (zt))] [.inl (zz)] h Q := mf_seg (mp_iyC_0 h d zc zf zt zz) (mi_tab_iyC_0) hS (mi_okL_c (trivial) (mi_okL_c (ok_zc) (mi_okL_c (ok_zf) (mi_okL_c (ok_zt) (mi_okL_e))))) (mi_okS_cons (ok_zz) (mi_okS_e)) (mi_al_e) (fun h1 W _ hst => mf_ret (M := (4, 1, sb_42)) rfl rfl rfl hst (mi_al_e) (kon h1 W))
set_option maxRecDepth 20000 in
theorem mt_iyC {h : sm_H} {d : Nat} {Q : Option mi_V → sm_H → Prop} {zc zf zt zz : Int} (hS : ab_Sh sx_sk h) (ok_zc : mi_in zc) (ok_zf : mi_in zf) (ok_zt : mi_in zt) (ok_zz : mi_in zz) (k0 : (∀ h1, ab_Sh sx_sk h1 → ab_Fr [] h h1 → Q (some (.inl (zz))) h1)) : me_E (d + 6) 42 36 [some (.inr (.inr 33)), some (.inl (zc)), some (.inl (zf)), some (.inl (zt))] [.inl (zz)] h Q := ms_iyC_0 hS ok_zc ok_zf ok_zt ok_zz (fun h1 W => (k0) h1 W.1 (W.2.2.2.2.2 _ rfl))
set_option maxRecDepth 20000 in
theorem mp_izA_0 (h : sm_H) (d : Nat) (zc zf : Int) : mj_path [(41, (3, 1, sb_41))] sx_sk h 1 [] (d + 7, 41, 0, [some (.inr (.inr 8)), some (.inl (zc)), some (.inl (zf))], [], [], []) = some ((d + 7, 41, 1, [some (.inr (.inr 8)), some (.inl (zc)), some (.inl (zf))], [.inr (.inr 8)], [], []), []) := rfl
theorem mi_tab_izA_0 : ∀ e ∈ ([(41, (3, 1, sb_41))] : mi_T), sc_P e.1 = some e.2 := mi_tb mi_P41 (mi_tb_e)
set_option maxRecDepth 20000 in
theorem ms_izA_0 {h : sm_H} {d : Nat} {Q : Option mi_V → sm_H → Prop} {zc zf : Int} (hS : ab_Sh sx_sk h) (ok_zc : mi_in zc) (ok_zf : mi_in zf) (kon : ∀ h1, me_W [] h h1 → ∃ Q1, me_E (d + 6) 30 0 (mi_entry 1 [.inr (.inr 8)]) [] h1 Q1 ∧ ∀ w h2, (∀ x, w = some x → mi_ok x) → Q1 w h2 → me_E (d + 7) 41 4 [some (.inr (.inr 8)), some (.inl (zc)), some (.inl (zf))] (mi_back w []) h2 Q) : me_E (d + 7) 41 0 [some (.inr (.inr 8)), some (.inl (zc)), some (.inl (zf))] [] h Q := mf_seg (mp_izA_0 h d zc zf) (mi_tab_izA_0) hS (mi_okL_c (trivial) (mi_okL_c (ok_zc) (mi_okL_c (ok_zf) (mi_okL_e)))) (mi_okS_e) (mi_al_e) (fun h1 W _ hst => let ⟨_, k1, k2⟩ := kon h1 W; mf_call (M := (3, 1, sb_41)) (M' := (1, 4, sb_30)) rfl rfl rfl rfl (Nat.le_of_ble_eq_true rfl) (Nat.le_of_ble_eq_true rfl) W.1 k1 k2)
set_option maxRecDepth 20000 in
theorem mt_izA {h : sm_H} {d : Nat} {Q : Option mi_V → sm_H → Prop} {zc zf : Int} (hS : ab_Sh sx_sk h) (ok_zc : mi_in zc) (ok_zf : mi_in zf) (k0 : (∀ h1, ab_Sh sx_sk h1 → ab_Fr [] h h1 → ∃ Q1, me_E (d + 6) 30 0 (mi_entry 1 [.inr (.inr 8)]) [] h1 Q1 ∧ ∀ w h2, (∀ x, w = some x → mi_ok x) → Q1 w h2 → me_E (d + 7) 41 4 [some (.inr (.inr 8)), some (.inl (zc)), some (.inl (zf))] (mi_back w []) h2 Q)) : me_E (d + 7) 41 0 [some (.inr (.inr 8)), some (.inl (zc)), some (.inl (zf))] [] h Q := ms_izA_0 hS ok_zc ok_zf (fun h1 W => (k0) h1 W.1 (W.2.2.2.2.2 _ rfl))
set_option maxRecDepth 20000 in
theorem mp_izB_0 (h : sm_H) (d : Nat) (zc zf zz : Int) : mj_path [(41, (3, 1, sb_41))] sx_sk h 6 [1] (d + 7, 41, 4, [some (.inr (.inr 8)), some (.inl (zc)), some (.inl (zf))], [.inl (zz)], [], []) = some ((d + 7, 41, 30, [some (.inr (.inr 8)), some (.inl (zc)), some (.inl (zf))], [.inr (.inr 8), .inl (zf), .inl (zc), .inr (.inr 33)], [], []), [zz = ((0 : Int))]) := rfl
theorem mi_tab_izB_0 : ∀ e ∈ ([(41, (3, 1, sb_41))] : mi_T), sc_P e.1 = some e.2 := mi_tb mi_P41 (mi_tb_e)
set_option maxRecDepth 20000 in
theorem ms_izB_0 {h : sm_H} {d : Nat} {Q : Option mi_V → sm_H → Prop} {zc zf zz : Int} (hS : ab_Sh sx_sk h) (ok_zc : mi_in zc) (ok_zf : mi_in zf) (ok_zz : mi_in zz) (ho : (zz = ((0 : Int)))) (kon : ∀ h1, me_W [] h h1 → ∃ Q1, me_E (d + 6) 27 0 (mi_entry 1 [.inr (.inr 8)]) [] h1 Q1 ∧ ∀ w h2, (∀ x, w = some x → mi_ok x) → Q1 w h2 → me_E (d + 7) 41 33 [some (.inr (.inr 8)), some (.inl (zc)), some (.inl (zf))] (mi_back w [.inl (zf), .inl (zc), .inr (.inr 33)]) h2 Q) : me_E (d + 7) 41 4 [some (.inr (.inr 8)), some (.inl (zc)), some (.inl (zf))] [.inl (zz)] h Q := mf_seg (mp_izB_0 h d zc zf zz) (mi_tab_izB_0) hS (mi_okL_c (trivial) (mi_okL_c (ok_zc) (mi_okL_c (ok_zf) (mi_okL_e)))) (mi_okS_cons (ok_zz) (mi_okS_e)) (mi_al (ho) (mi_al_e)) (fun h1 W _ hst => let ⟨_, k1, k2⟩ := kon h1 W; mf_call (M := (3, 1, sb_41)) (M' := (1, 1, sb_27)) rfl rfl rfl rfl (Nat.le_of_ble_eq_true rfl) (Nat.le_of_ble_eq_true rfl) W.1 k1 k2)
set_option maxRecDepth 20000 in
theorem mp_izB_1 (h : sm_H) (d : Nat) (zc zf zz : Int) : mj_path [(41, (3, 1, sb_41))] sx_sk h 6 [0] (d + 7, 41, 4, [some (.inr (.inr 8)), some (.inl (zc)), some (.inl (zf))], [.inl (zz)], [], []) = some ((d + 7, 41, 14, [some (.inr (.inr 8)), some (.inl (zc)), some (.inl (zf))], [.inr (.inr 8), .inl (zf), .inl (zc), .inr (.inr 33)], [], []), [zz ≠ ((0 : Int))]) := rfl
theorem mi_tab_izB_1 : ∀ e ∈ ([(41, (3, 1, sb_41))] : mi_T), sc_P e.1 = some e.2 := mi_tb mi_P41 (mi_tb_e)
set_option maxRecDepth 20000 in
theorem ms_izB_1 {h : sm_H} {d : Nat} {Q : Option mi_V → sm_H → Prop} {zc zf zz : Int} (hS : ab_Sh sx_sk h) (ok_zc : mi_in zc) (ok_zf : mi_in zf) (ok_zz : mi_in zz) (ho : (zz ≠ ((0 : Int)))) (kon : ∀ h1, me_W [] h h1 → ∃ Q1, me_E (d + 6) 27 0 (mi_entry 1 [.inr (.inr 8)]) [] h1 Q1 ∧ ∀ w h2, (∀ x, w = some x → mi_ok x) → Q1 w h2 → me_E (d + 7) 41 17 [some (.inr (.inr 8)), some (.inl (zc)), some (.inl (zf))] (mi_back w [.inl (zf), .inl (zc), .inr (.inr 33)]) h2 Q) : me_E (d + 7) 41 4 [some (.inr (.inr 8)), some (.inl (zc)), some (.inl (zf))] [.inl (zz)] h Q := mf_seg (mp_izB_1 h d zc zf zz) (mi_tab_izB_1) hS (mi_okL_c (trivial) (mi_okL_c (ok_zc) (mi_okL_c (ok_zf) (mi_okL_e)))) (mi_okS_cons (ok_zz) (mi_okS_e)) (mi_al (ho) (mi_al_e)) (fun h1 W _ hst => let ⟨_, k1, k2⟩ := kon h1 W; mf_call (M := (3, 1, sb_41)) (M' := (1, 1, sb_27)) rfl rfl rfl rfl (Nat.le_of_ble_eq_true rfl) (Nat.le_of_ble_eq_true rfl) W.1 k1 k2)
set_option maxRecDepth 20000 in
theorem mt_izB {h : sm_H} {d : Nat} {Q : Option mi_V → sm_H → Prop} {zc zf zz : Int} (hS : ab_Sh sx_sk h) (ok_zc : mi_in zc) (ok_zf : mi_in zf) (ok_zz : mi_in zz) (k0 : (zz = ((0 : Int))) → (∀ h1, ab_Sh sx_sk h1 → ab_Fr [] h h1 → ∃ Q1, me_E (d + 6) 27 0 (mi_entry 1 [.inr (.inr 8)]) [] h1 Q1 ∧ ∀ w h2, (∀ x, w = some x → mi_ok x) → Q1 w h2 → me_E (d + 7) 41 33 [some (.inr (.inr 8)), some (.inl (zc)), some (.inl (zf))] (mi_back w [.inl (zf), .inl (zc), .inr (.inr 33)]) h2 Q)) (k1 : (zz ≠ ((0 : Int))) → (∀ h1, ab_Sh sx_sk h1 → ab_Fr [] h h1 → ∃ Q1, me_E (d + 6) 27 0 (mi_entry 1 [.inr (.inr 8)]) [] h1 Q1 ∧ ∀ w h2, (∀ x, w = some x → mi_ok x) → Q1 w h2 → me_E (d + 7) 41 17 [some (.inr (.inr 8)), some (.inl (zc)), some (.inl (zf))] (mi_back w [.inl (zf), .inl (zc), .inr (.inr 33)]) h2 Q)) : me_E (d + 7) 41 4 [some (.inr (.inr 8)), some (.inl (zc)), some (.inl (zf))] [.inl (zz)] h Q := Or.elim (mi_em .eq (zz) (((0 : Int)))) (fun c0 => ms_izB_0 hS ok_zc ok_zf ok_zz (c0) (fun h1 W => (k0 c0) h1 W.1 (W.2.2.2.2.2 _ rfl))) (fun c0 => ms_izB_1 hS ok_zc ok_zf ok_zz (c0) (fun h1 W => (k1 c0) h1 W.1 (W.2.2.2.2.2 _ rfl)))
set_option maxRecDepth 20000 in
theorem mp_izC_0 (h : sm_H) (d : Nat) (zc zf zl : Int) : mj_path [(41, (3, 1, sb_41))] sx_sk h 0 [] (d + 7, 41, 17, [some (.inr (.inr 8)), some (.inl (zc)), some (.inl (zf))], [.inl (zl), .inl (zf), .inl (zc), .inr (.inr 33)], [], []) = some ((d + 7, 41, 17, [some (.inr (.inr 8)), some (.inl (zc)), some (.inl (zf))], [.inl (zl), .inl (zf), .inl (zc), .inr (.inr 33)], [], []), []) := rfl
theorem mi_tab_izC_0 : ∀ e ∈ ([(41, (3, 1, sb_41))] : mi_T), sc_P e.1 = some e.2 := mi_tb mi_P41 (mi_tb_e)
set_option maxRecDepth 20000 in
theorem ms_izC_0 {h : sm_H} {d : Nat} {Q : Option mi_V → sm_H → Prop} {zc zf zl : Int} (hS : ab_Sh sx_sk h) (ok_zc : mi_in zc) (ok_zf : mi_in zf) (ok_zl : mi_in zl) (kon : ∀ h1, me_W [] h h1 → ∃ Q1, me_E (d + 6) 42 0 (mi_entry 4 [.inr (.inr 33), .inl (zc), .inl (zf), .inl (zl)]) [] h1 Q1 ∧ ∀ w h2, (∀ x, w = some x → mi_ok x) → Q1 w h2 → me_E (d + 7) 41 20 [some (.inr (.inr 8)), some (.inl (zc)), some (.inl (zf))] (mi_back w []) h2 Q) : me_E (d + 7) 41 17 [some (.inr (.inr 8)), some (.inl (zc)), some (.inl (zf))] [.inl (zl), .inl (zf), .inl (zc), .inr (.inr 33)] h Q := mf_seg (mp_izC_0 h d zc zf zl) (mi_tab_izC_0) hS (mi_okL_c (trivial) (mi_okL_c (ok_zc) (mi_okL_c (ok_zf) (mi_okL_e)))) (mi_okS_cons (ok_zl) (mi_okS_cons (ok_zf) (mi_okS_cons (ok_zc) (mi_okS_cons (trivial) (mi_okS_e))))) (mi_al_e) (fun h1 W _ hst => let ⟨_, k1, k2⟩ := kon h1 W; mf_call (M := (3, 1, sb_41)) (M' := (4, 1, sb_42)) rfl rfl rfl rfl (Nat.le_of_ble_eq_true rfl) (Nat.le_of_ble_eq_true rfl) W.1 k1 k2)
set_option maxRecDepth 20000 in
theorem mt_izC {h : sm_H} {d : Nat} {Q : Option mi_V → sm_H → Prop} {zc zf zl : Int} (hS : ab_Sh sx_sk h) (ok_zc : mi_in zc) (ok_zf : mi_in zf) (ok_zl : mi_in zl) (k0 : (∀ h1, ab_Sh sx_sk h1 → ab_Fr [] h h1 → ∃ Q1, me_E (d + 6) 42 0 (mi_entry 4 [.inr (.inr 33), .inl (zc), .inl (zf), .inl (zl)]) [] h1 Q1 ∧ ∀ w h2, (∀ x, w = some x → mi_ok x) → Q1 w h2 → me_E (d + 7) 41 20 [some (.inr (.inr 8)), some (.inl (zc)), some (.inl (zf))] (mi_back w []) h2 Q)) : me_E (d + 7) 41 17 [some (.inr (.inr 8)), some (.inl (zc)), some (.inl (zf))] [.inl (zl), .inl (zf), .inl (zc), .inr (.inr 33)] h Q := ms_izC_0 hS ok_zc ok_zf ok_zl (fun h1 W => (k0) h1 W.1 (W.2.2.2.2.2 _ rfl))
set_option maxRecDepth 20000 in
theorem mp_izD_0 (h : sm_H) (d : Nat) (zc zf zz : Int) : mj_path [(41, (3, 1, sb_41))] sx_sk h 1 [] (d + 7, 41, 20, [some (.inr (.inr 8)), some (.inl (zc)), some (.inl (zf))], [.inl (zz)], [], []) = some ((d + 7, 41, 36, [some (.inr (.inr 8)), some (.inl (zc)), some (.inl (zf))], [.inl (zz)], [], []), []) := rfl
theorem mi_tab_izD_0 : ∀ e ∈ ([(41, (3, 1, sb_41))] : mi_T), sc_P e.1 = some e.2 := mi_tb mi_P41 (mi_tb_e)
set_option maxRecDepth 20000 in
theorem ms_izD_0 {h : sm_H} {d : Nat} {Q : Option mi_V → sm_H → Prop} {zc zf zz : Int} (hS : ab_Sh sx_sk h) (ok_zc : mi_in zc) (ok_zf : mi_in zf) (ok_zz : mi_in zz) (kon : ∀ h1, me_W [] h h1 → Q (some (.inl (zz))) h1) : me_E (d + 7) 41 20 [some (.inr (.inr 8)), some (.inl (zc)), some (.inl (zf))] [.inl (zz)] h Q := mf_seg (mp_izD_0 h d zc zf zz) (mi_tab_izD_0) hS (mi_okL_c (trivial) (mi_okL_c (ok_zc) (mi_okL_c (ok_zf) (mi_okL_e)))) (mi_okS_cons (ok_zz) (mi_okS_e)) (mi_al_e) (fun h1 W _ hst => mf_ret (M := (3, 1, sb_41)) rfl rfl rfl hst (mi_al_e) (kon h1 W))
set_option maxRecDepth 20000 in
theorem mt_izD {h : sm_H} {d : Nat} {Q : Option mi_V → sm_H → Prop} {zc zf zz : Int} (hS : ab_Sh sx_sk h) (ok_zc : mi_in zc) (ok_zf : mi_in zf) (ok_zz : mi_in zz) (k0 : (∀ h1, ab_Sh sx_sk h1 → ab_Fr [] h h1 → Q (some (.inl (zz))) h1)) : me_E (d + 7) 41 20 [some (.inr (.inr 8)), some (.inl (zc)), some (.inl (zf))] [.inl (zz)] h Q := ms_izD_0 hS ok_zc ok_zf ok_zz (fun h1 W => (k0) h1 W.1 (W.2.2.2.2.2 _ rfl))
set_option maxRecDepth 20000 in
theorem mp_iwA_0 (h : sm_H) (d : Nat) (zc : Int) : mj_path [(40, (2, 1, sb_40))] sx_sk h 3 [] (d + 8, 40, 0, [some (.inr (.inr 8)), some (.inl (zc))], [], [], []) = some ((d + 8, 40, 3, [some (.inr (.inr 8)), some (.inl (zc))], [.inl ((0 : Int)), .inl (zc), .inr (.inr 8)], [], []), []) := rfl
theorem mi_tab_iwA_0 : ∀ e ∈ ([(40, (2, 1, sb_40))] : mi_T), sc_P e.1 = some e.2 := mi_tb mi_P40 (mi_tb_e)
set_option maxRecDepth 20000 in
theorem ms_iwA_0 {h : sm_H} {d : Nat} {Q : Option mi_V → sm_H → Prop} {zc : Int} (hS : ab_Sh sx_sk h) (ok_zc : mi_in zc) (kon : ∀ h1, me_W [] h h1 → ∃ Q1, me_E (d + 7) 41 0 (mi_entry 3 [.inr (.inr 8), .inl (zc), .inl ((0 : Int))]) [] h1 Q1 ∧ ∀ w h2, (∀ x, w = some x → mi_ok x) → Q1 w h2 → me_E (d + 8) 40 6 [some (.inr (.inr 8)), some (.inl (zc))] (mi_back w []) h2 Q) : me_E (d + 8) 40 0 [some (.inr (.inr 8)), some (.inl (zc))] [] h Q := mf_seg (mp_iwA_0 h d zc) (mi_tab_iwA_0) hS (mi_okL_c (trivial) (mi_okL_c (ok_zc) (mi_okL_e))) (mi_okS_e) (mi_al_e) (fun h1 W _ hst => let ⟨_, k1, k2⟩ := kon h1 W; mf_call (M := (2, 1, sb_40)) (M' := (3, 1, sb_41)) rfl rfl rfl rfl (Nat.le_of_ble_eq_true rfl) (Nat.le_of_ble_eq_true rfl) W.1 k1 k2)
set_option maxRecDepth 20000 in
theorem mt_iwA {h : sm_H} {d : Nat} {Q : Option mi_V → sm_H → Prop} {zc : Int} (hS : ab_Sh sx_sk h) (ok_zc : mi_in zc) (k0 : (∀ h1, ab_Sh sx_sk h1 → ab_Fr [] h h1 → ∃ Q1, me_E (d + 7) 41 0 (mi_entry 3 [.inr (.inr 8), .inl (zc), .inl ((0 : Int))]) [] h1 Q1 ∧ ∀ w h2, (∀ x, w = some x → mi_ok x) → Q1 w h2 → me_E (d + 8) 40 6 [some (.inr (.inr 8)), some (.inl (zc))] (mi_back w []) h2 Q)) : me_E (d + 8) 40 0 [some (.inr (.inr 8)), some (.inl (zc))] [] h Q := ms_iwA_0 hS ok_zc (fun h1 W => (k0) h1 W.1 (W.2.2.2.2.2 _ rfl))
set_option maxRecDepth 20000 in
theorem mp_iwB_0 (h : sm_H) (d : Nat) (zc zz : Int) : mj_path [(40, (2, 1, sb_40))] sx_sk h 0 [] (d + 8, 40, 6, [some (.inr (.inr 8)), some (.inl (zc))], [.inl (zz)], [], []) = some ((d + 8, 40, 6, [some (.inr (.inr 8)), some (.inl (zc))], [.inl (zz)], [], []), []) := rfl
theorem mi_tab_iwB_0 : ∀ e ∈ ([(40, (2, 1, sb_40))] : mi_T), sc_P e.1 = some e.2 := mi_tb mi_P40 (mi_tb_e)
set_option maxRecDepth 20000 in
theorem ms_iwB_0 {h : sm_H} {d : Nat} {Q : Option mi_V → sm_H → Prop} {zc zz : Int} (hS : ab_Sh sx_sk h) (ok_zc : mi_in zc) (ok_zz : mi_in zz) (kon : ∀ h1, me_W [] h h1 → Q (some (.inl (zz))) h1) : me_E (d + 8) 40 6 [some (.inr (.inr 8)), some (.inl (zc))] [.inl (zz)] h Q := mf_seg (mp_iwB_0 h d zc zz) (mi_tab_iwB_0) hS (mi_okL_c (trivial) (mi_okL_c (ok_zc) (mi_okL_e))) (mi_okS_cons (ok_zz) (mi_okS_e)) (mi_al_e) (fun h1 W _ hst => mf_ret (M := (2, 1, sb_40)) rfl rfl rfl hst (mi_al_e) (kon h1 W))
set_option maxRecDepth 20000 in
theorem mt_iwB {h : sm_H} {d : Nat} {Q : Option mi_V → sm_H → Prop} {zc zz : Int} (hS : ab_Sh sx_sk h) (ok_zc : mi_in zc) (ok_zz : mi_in zz) (k0 : (∀ h1, ab_Sh sx_sk h1 → ab_Fr [] h h1 → Q (some (.inl (zz))) h1)) : me_E (d + 8) 40 6 [some (.inr (.inr 8)), some (.inl (zc))] [.inl (zz)] h Q := ms_iwB_0 hS ok_zc ok_zz (fun h1 W => (k0) h1 W.1 (W.2.2.2.2.2 _ rfl))
set_option maxRecDepth 20000 in
theorem mp_avA_0 (h : sm_H) (d : Nat) : mj_path [(18, (2, 0, sb_18))] sx_sk h 5 [] (d + 10, 18, 0, [some (.inr (.inr 77)), none], [], [], []) = some ((d + 10, 18, 9, [some (.inr (.inr 77)), none], [.inl (mi_f h 9857), .inr (.inr 52), .inr (.inr 77)], [], []), []) := rfl
theorem mi_tab_avA_0 : ∀ e ∈ ([(18, (2, 0, sb_18))] : mi_T), sc_P e.1 = some e.2 := mi_tb mi_P18 (mi_tb_e)
set_option maxRecDepth 20000 in
theorem ms_avA_0 {h : sm_H} {d : Nat} {Q : Option mi_V → sm_H → Prop} (hS : ab_Sh sx_sk h)  (kon : ∀ h1, me_W [] h h1 → ∃ Q1, me_E (d + 9) 19 0 (mi_entry 3 [.inr (.inr 52), .inl (mi_f h 9857)]) [] h1 Q1 ∧ ∀ w h2, (∀ x, w = some x → mi_ok x) → Q1 w h2 → me_E (d + 10) 18 12 [some (.inr (.inr 77)), none] (mi_back w [.inr (.inr 77)]) h2 Q) : me_E (d + 10) 18 0 [some (.inr (.inr 77)), none] [] h Q := mf_seg (mp_avA_0 h d ) (mi_tab_avA_0) hS (mi_okL_c (trivial) (mi_okL_n (mi_okL_e))) (mi_okS_e) (mi_al_e) (fun h1 W _ hst => let ⟨_, k1, k2⟩ := kon h1 W; mf_call (M := (2, 0, sb_18)) (M' := (3, 1, sb_19)) rfl rfl rfl rfl (Nat.le_of_ble_eq_true rfl) (Nat.le_of_ble_eq_true rfl) W.1 k1 k2)
set_option maxRecDepth 20000 in
theorem mt_avA {h : sm_H} {d : Nat} {Q : Option mi_V → sm_H → Prop} (hS : ab_Sh sx_sk h)  (k0 : (∀ h1, ab_Sh sx_sk h1 → ab_Fr [] h h1 → ∃ Q1, me_E (d + 9) 19 0 (mi_entry 3 [.inr (.inr 52), .inl (mi_f h 9857)]) [] h1 Q1 ∧ ∀ w h2, (∀ x, w = some x → mi_ok x) → Q1 w h2 → me_E (d + 10) 18 12 [some (.inr (.inr 77)), none] (mi_back w [.inr (.inr 77)]) h2 Q)) : me_E (d + 10) 18 0 [some (.inr (.inr 77)), none] [] h Q := ms_avA_0 hS (fun h1 W => (k0) h1 W.1 (W.2.2.2.2.2 _ rfl))
set_option maxRecDepth 20000 in
theorem mp_avB_0 (h : sm_H) (d : Nat) (zz : Int) : mj_path [(18, (2, 0, sb_18))] sx_sk h 12 [] (d + 10, 18, 12, [some (.inr (.inr 77)), none], [.inl (zz), .inr (.inr 77)], [], []) = some ((d + 10, 18, 36, [some (.inr (.inr 77)), none], [.inl (zz), .inr (.inr 52)], [.inl (9860, (0 : Int)), .inl (9857, zz), .inl (9858, zz)], []), [0 ≤ zz ∧ zz ≤ 241, 0 ≤ zz ∧ zz ≤ 241]) := rfl
theorem mi_tab_avB_0 : ∀ e ∈ ([(18, (2, 0, sb_18))] : mi_T), sc_P e.1 = some e.2 := mi_tb mi_P18 (mi_tb_e)
set_option maxRecDepth 20000 in
theorem ms_avB_0 {h : sm_H} {d : Nat} {Q : Option mi_V → sm_H → Prop} {zz : Int} (hS : ab_Sh sx_sk h) (ok_zz : mi_in zz) (ho : (0 ≤ zz ∧ zz ≤ 241) ∧ (0 ≤ zz ∧ zz ≤ 241)) (kon : ∀ h1, me_W [.inl (9860, (0 : Int)), .inl (9857, zz), .inl (9858, zz)] h h1 → ∃ Q1, me_E (d + 9) 20 0 (mi_entry 2 [.inr (.inr 52), .inl (zz)]) [] h1 Q1 ∧ ∀ w h2, (∀ x, w = some x → mi_ok x) → Q1 w h2 → me_E (d + 10) 18 39 [some (.inr (.inr 77)), none] (mi_back w []) h2 Q) : me_E (d + 10) 18 12 [some (.inr (.inr 77)), none] [.inl (zz), .inr (.inr 77)] h Q := mf_seg (mp_avB_0 h d zz) (mi_tab_avB_0) hS (mi_okL_c (trivial) (mi_okL_n (mi_okL_e))) (mi_okS_cons (ok_zz) (mi_okS_cons (trivial) (mi_okS_e))) (mi_al (ho.1) (mi_al (ho.2) (mi_al_e))) (fun h1 W _ hst => let ⟨_, k1, k2⟩ := kon h1 W; mf_call (M := (2, 0, sb_18)) (M' := (2, 5, sb_20)) rfl rfl rfl rfl (Nat.le_of_ble_eq_true rfl) (Nat.le_of_ble_eq_true rfl) W.1 k1 k2)
set_option maxRecDepth 20000 in
theorem mt_avB {h : sm_H} {d : Nat} {Q : Option mi_V → sm_H → Prop} {zz : Int} (hS : ab_Sh sx_sk h) (ok_zz : mi_in zz) (k0 : ((0 ≤ zz ∧ zz ≤ 241)) ∧ (∀ h1, ab_Sh sx_sk h1 → mi_f h1 9857 = zz → mi_f h1 9858 = zz → mi_f h1 9860 = (0 : Int) → ab_Fr [(9857, 9859), (9860, 9861)] h h1 → ∃ Q1, me_E (d + 9) 20 0 (mi_entry 2 [.inr (.inr 52), .inl (zz)]) [] h1 Q1 ∧ ∀ w h2, (∀ x, w = some x → mi_ok x) → Q1 w h2 → me_E (d + 10) 18 39 [some (.inr (.inr 77)), none] (mi_back w []) h2 Q)) : me_E (d + 10) 18 12 [some (.inr (.inr 77)), none] [.inl (zz), .inr (.inr 77)] h Q := ms_avB_0 hS ok_zz ⟨(k0).1, (k0).1⟩ (fun h1 W => (k0).2 h1 W.1 (W.2.1 9857) (W.2.1 9858) (W.2.1 9860) (W.2.2.2.2.2 _ rfl))
set_option maxRecDepth 20000 in
theorem mp_avC_0 (h : sm_H) (d : Nat) (zz : Int) : mj_path [(18, (2, 0, sb_18)), (23, (1, 4, sb_23)), (22, (1, 1, sb_22))] sx_sk h 26 [1, 1, 1, 1, 1] (d + 10, 18, 39, [some (.inr (.inr 77)), none], [.inl (zz)], [], []) = some ((d + 10, 18, 104, [some (.inr (.inr 77)), some (.inl (zz))], [.inl (zz), .inr (.inr 77)], [], []), [(mi_f h 9858) < (mi_f h 6657), zz < ((97 : Int)), ((0 : Int)) = 0 ∨ ((0 : Int)) = 1, ((0 : Int)) = ((0 : Int)), zz ≠ ((34 : Int)), zz ≠ ((39 : Int))]) := rfl
theorem mi_tab_avC_0 : ∀ e ∈ ([(18, (2, 0, sb_18)), (23, (1, 4, sb_23)), (22, (1, 1, sb_22))] : mi_T), sc_P e.1 = some e.2 := mi_tb mi_P18 (mi_tb mi_P23 (mi_tb mi_P22 (mi_tb_e)))
set_option maxRecDepth 20000 in
theorem ms_avC_0 {h : sm_H} {d : Nat} {Q : Option mi_V → sm_H → Prop} {zz : Int} (hS : ab_Sh sx_sk h) (ok_zz : mi_in zz) (ho : ((mi_f h 9858) < (mi_f h 6657)) ∧ (zz < ((97 : Int))) ∧ (((0 : Int)) = 0 ∨ ((0 : Int)) = 1) ∧ (((0 : Int)) = ((0 : Int))) ∧ (zz ≠ ((34 : Int))) ∧ (zz ≠ ((39 : Int)))) (kon : ∀ h1, me_W [] h h1 → ∃ Q1, me_E (d + 9) 39 0 (mi_entry 2 [.inr (.inr 77), .inl (zz)]) [] h1 Q1 ∧ ∀ w h2, (∀ x, w = some x → mi_ok x) → Q1 w h2 → me_E (d + 10) 18 107 [some (.inr (.inr 77)), some (.inl (zz))] (mi_back w []) h2 Q) : me_E (d + 10) 18 39 [some (.inr (.inr 77)), none] [.inl (zz)] h Q := mf_seg (mp_avC_0 h d zz) (mi_tab_avC_0) hS (mi_okL_c (trivial) (mi_okL_n (mi_okL_e))) (mi_okS_cons (ok_zz) (mi_okS_e)) (mi_al (ho.1) (mi_al (ho.2.1) (mi_al (ho.2.2.1) (mi_al (ho.2.2.2.1) (mi_al (ho.2.2.2.2.1) (mi_al (ho.2.2.2.2.2) (mi_al_e))))))) (fun h1 W _ hst => let ⟨_, k1, k2⟩ := kon h1 W; mf_call (M := (2, 0, sb_18)) (M' := (2, 0, sb_39)) rfl rfl rfl rfl (Nat.le_of_ble_eq_true rfl) (Nat.le_of_ble_eq_true rfl) W.1 k1 k2)
set_option maxRecDepth 20000 in
theorem mp_avC_1 (h : sm_H) (d : Nat) (zz : Int) : mj_path [(18, (2, 0, sb_18)), (23, (1, 4, sb_23)), (22, (1, 1, sb_22))] sx_sk h 25 [1, 1, 1, 1, 0] (d + 10, 18, 39, [some (.inr (.inr 77)), none], [.inl (zz)], [], []) = some ((d + 10, 18, 96, [some (.inr (.inr 77)), some (.inl (zz))], [.inr (.inr 77)], [], []), [(mi_f h 9858) < (mi_f h 6657), zz < ((97 : Int)), ((0 : Int)) = 0 ∨ ((0 : Int)) = 1, ((0 : Int)) = ((0 : Int)), zz ≠ ((34 : Int)), zz = ((39 : Int))]) := rfl
theorem mi_tab_avC_1 : ∀ e ∈ ([(18, (2, 0, sb_18)), (23, (1, 4, sb_23)), (22, (1, 1, sb_22))] : mi_T), sc_P e.1 = some e.2 := mi_tb mi_P18 (mi_tb mi_P23 (mi_tb mi_P22 (mi_tb_e)))
set_option maxRecDepth 20000 in
theorem ms_avC_1 {h : sm_H} {d : Nat} {Q : Option mi_V → sm_H → Prop} {zz : Int} (hS : ab_Sh sx_sk h) (ok_zz : mi_in zz) (ho : ((mi_f h 9858) < (mi_f h 6657)) ∧ (zz < ((97 : Int))) ∧ (((0 : Int)) = 0 ∨ ((0 : Int)) = 1) ∧ (((0 : Int)) = ((0 : Int))) ∧ (zz ≠ ((34 : Int))) ∧ (zz = ((39 : Int)))) (kon : ∀ h1, me_W [] h h1 → ∃ Q1, me_E (d + 9) 35 0 (mi_entry 2 [.inr (.inr 77)]) [] h1 Q1 ∧ ∀ w h2, (∀ x, w = some x → mi_ok x) → Q1 w h2 → me_E (d + 10) 18 99 [some (.inr (.inr 77)), some (.inl (zz))] (mi_back w []) h2 Q) : me_E (d + 10) 18 39 [some (.inr (.inr 77)), none] [.inl (zz)] h Q := mf_seg (mp_avC_1 h d zz) (mi_tab_avC_1) hS (mi_okL_c (trivial) (mi_okL_n (mi_okL_e))) (mi_okS_cons (ok_zz) (mi_okS_e)) (mi_al (ho.1) (mi_al (ho.2.1) (mi_al (ho.2.2.1) (mi_al (ho.2.2.2.1) (mi_al (ho.2.2.2.2.1) (mi_al (ho.2.2.2.2.2) (mi_al_e))))))) (fun h1 W _ hst => let ⟨_, k1, k2⟩ := kon h1 W; mf_call (M := (2, 0, sb_18)) (M' := (2, 0, sb_35)) rfl rfl rfl rfl (Nat.le_of_ble_eq_true rfl) (Nat.le_of_ble_eq_true rfl) W.1 k1 k2)
set_option maxRecDepth 20000 in
theorem mp_avC_2 (h : sm_H) (d : Nat) (zz : Int) : mj_path [(18, (2, 0, sb_18)), (23, (1, 4, sb_23)), (22, (1, 1, sb_22))] sx_sk h 22 [1, 1, 1, 0] (d + 10, 18, 39, [some (.inr (.inr 77)), none], [.inl (zz)], [], []) = some ((d + 10, 18, 83, [some (.inr (.inr 77)), some (.inl (zz))], [.inr (.inr 77)], [], []), [(mi_f h 9858) < (mi_f h 6657), zz < ((97 : Int)), ((0 : Int)) = 0 ∨ ((0 : Int)) = 1, ((0 : Int)) = ((0 : Int)), zz = ((34 : Int))]) := rfl
theorem mi_tab_avC_2 : ∀ e ∈ ([(18, (2, 0, sb_18)), (23, (1, 4, sb_23)), (22, (1, 1, sb_22))] : mi_T), sc_P e.1 = some e.2 := mi_tb mi_P18 (mi_tb mi_P23 (mi_tb mi_P22 (mi_tb_e)))
set_option maxRecDepth 20000 in
theorem ms_avC_2 {h : sm_H} {d : Nat} {Q : Option mi_V → sm_H → Prop} {zz : Int} (hS : ab_Sh sx_sk h) (ok_zz : mi_in zz) (ho : ((mi_f h 9858) < (mi_f h 6657)) ∧ (zz < ((97 : Int))) ∧ (((0 : Int)) = 0 ∨ ((0 : Int)) = 1) ∧ (((0 : Int)) = ((0 : Int))) ∧ (zz = ((34 : Int)))) (kon : ∀ h1, me_W [] h h1 → ∃ Q1, me_E (d + 9) 33 0 (mi_entry 3 [.inr (.inr 77)]) [] h1 Q1 ∧ ∀ w h2, (∀ x, w = some x → mi_ok x) → Q1 w h2 → me_E (d + 10) 18 86 [some (.inr (.inr 77)), some (.inl (zz))] (mi_back w []) h2 Q) : me_E (d + 10) 18 39 [some (.inr (.inr 77)), none] [.inl (zz)] h Q := mf_seg (mp_avC_2 h d zz) (mi_tab_avC_2) hS (mi_okL_c (trivial) (mi_okL_n (mi_okL_e))) (mi_okS_cons (ok_zz) (mi_okS_e)) (mi_al (ho.1) (mi_al (ho.2.1) (mi_al (ho.2.2.1) (mi_al (ho.2.2.2.1) (mi_al (ho.2.2.2.2) (mi_al_e)))))) (fun h1 W _ hst => let ⟨_, k1, k2⟩ := kon h1 W; mf_call (M := (2, 0, sb_18)) (M' := (3, 0, sb_33)) rfl rfl rfl rfl (Nat.le_of_ble_eq_true rfl) (Nat.le_of_ble_eq_true rfl) W.1 k1 k2)
set_option maxRecDepth 20000 in
theorem mp_avC_3 (h : sm_H) (d : Nat) (zz : Int) : mj_path [(18, (2, 0, sb_18)), (23, (1, 4, sb_23)), (22, (1, 1, sb_22))] sx_sk h 29 [1, 0, 1, 1, 1, 1] (d + 10, 18, 39, [some (.inr (.inr 77)), none], [.inl (zz)], [], []) = some ((d + 10, 18, 104, [some (.inr (.inr 77)), some (.inl (zz))], [.inl (zz), .inr (.inr 77)], [], []), [(mi_f h 9858) < (mi_f h 6657), ((97 : Int)) ≤ zz, ((122 : Int)) < zz, ((0 : Int)) = 0 ∨ ((0 : Int)) = 1, ((0 : Int)) = ((0 : Int)), zz ≠ ((34 : Int)), zz ≠ ((39 : Int))]) := rfl
theorem mi_tab_avC_3 : ∀ e ∈ ([(18, (2, 0, sb_18)), (23, (1, 4, sb_23)), (22, (1, 1, sb_22))] : mi_T), sc_P e.1 = some e.2 := mi_tb mi_P18 (mi_tb mi_P23 (mi_tb mi_P22 (mi_tb_e)))
set_option maxRecDepth 20000 in
theorem ms_avC_3 {h : sm_H} {d : Nat} {Q : Option mi_V → sm_H → Prop} {zz : Int} (hS : ab_Sh sx_sk h) (ok_zz : mi_in zz) (ho : ((mi_f h 9858) < (mi_f h 6657)) ∧ (((97 : Int)) ≤ zz) ∧ (((122 : Int)) < zz) ∧ (((0 : Int)) = 0 ∨ ((0 : Int)) = 1) ∧ (((0 : Int)) = ((0 : Int))) ∧ (zz ≠ ((34 : Int))) ∧ (zz ≠ ((39 : Int)))) (kon : ∀ h1, me_W [] h h1 → ∃ Q1, me_E (d + 9) 39 0 (mi_entry 2 [.inr (.inr 77), .inl (zz)]) [] h1 Q1 ∧ ∀ w h2, (∀ x, w = some x → mi_ok x) → Q1 w h2 → me_E (d + 10) 18 107 [some (.inr (.inr 77)), some (.inl (zz))] (mi_back w []) h2 Q) : me_E (d + 10) 18 39 [some (.inr (.inr 77)), none] [.inl (zz)] h Q := mf_seg (mp_avC_3 h d zz) (mi_tab_avC_3) hS (mi_okL_c (trivial) (mi_okL_n (mi_okL_e))) (mi_okS_cons (ok_zz) (mi_okS_e)) (mi_al (ho.1) (mi_al (ho.2.1) (mi_al (ho.2.2.1) (mi_al (ho.2.2.2.1) (mi_al (ho.2.2.2.2.1) (mi_al (ho.2.2.2.2.2.1) (mi_al (ho.2.2.2.2.2.2) (mi_al_e)))))))) (fun h1 W _ hst => let ⟨_, k1, k2⟩ := kon h1 W; mf_call (M := (2, 0, sb_18)) (M' := (2, 0, sb_39)) rfl rfl rfl rfl (Nat.le_of_ble_eq_true rfl) (Nat.le_of_ble_eq_true rfl) W.1 k1 k2)
set_option maxRecDepth 20000 in
theorem mp_avC_4 (h : sm_H) (d : Nat) (zz : Int) : mj_path [(18, (2, 0, sb_18)), (23, (1, 4, sb_23)), (22, (1, 1, sb_22))] sx_sk h 28 [1, 0, 1, 1, 1, 0] (d + 10, 18, 39, [some (.inr (.inr 77)), none], [.inl (zz)], [], []) = some ((d + 10, 18, 96, [some (.inr (.inr 77)), some (.inl (zz))], [.inr (.inr 77)], [], []), [(mi_f h 9858) < (mi_f h 6657), ((97 : Int)) ≤ zz, ((122 : Int)) < zz, ((0 : Int)) = 0 ∨ ((0 : Int)) = 1, ((0 : Int)) = ((0 : Int)), zz ≠ ((34 : Int)), zz = ((39 : Int))]) := rfl
theorem mi_tab_avC_4 : ∀ e ∈ ([(18, (2, 0, sb_18)), (23, (1, 4, sb_23)), (22, (1, 1, sb_22))] : mi_T), sc_P e.1 = some e.2 := mi_tb mi_P18 (mi_tb mi_P23 (mi_tb mi_P22 (mi_tb_e)))
set_option maxRecDepth 20000 in
theorem ms_avC_4 {h : sm_H} {d : Nat} {Q : Option mi_V → sm_H → Prop} {zz : Int} (hS : ab_Sh sx_sk h) (ok_zz : mi_in zz) (ho : ((mi_f h 9858) < (mi_f h 6657)) ∧ (((97 : Int)) ≤ zz) ∧ (((122 : Int)) < zz) ∧ (((0 : Int)) = 0 ∨ ((0 : Int)) = 1) ∧ (((0 : Int)) = ((0 : Int))) ∧ (zz ≠ ((34 : Int))) ∧ (zz = ((39 : Int)))) (kon : ∀ h1, me_W [] h h1 → ∃ Q1, me_E (d + 9) 35 0 (mi_entry 2 [.inr (.inr 77)]) [] h1 Q1 ∧ ∀ w h2, (∀ x, w = some x → mi_ok x) → Q1 w h2 → me_E (d + 10) 18 99 [some (.inr (.inr 77)), some (.inl (zz))] (mi_back w []) h2 Q) : me_E (d + 10) 18 39 [some (.inr (.inr 77)), none] [.inl (zz)] h Q := mf_seg (mp_avC_4 h d zz) (mi_tab_avC_4) hS (mi_okL_c (trivial) (mi_okL_n (mi_okL_e))) (mi_okS_cons (ok_zz) (mi_okS_e)) (mi_al (ho.1) (mi_al (ho.2.1) (mi_al (ho.2.2.1) (mi_al (ho.2.2.2.1) (mi_al (ho.2.2.2.2.1) (mi_al (ho.2.2.2.2.2.1) (mi_al (ho.2.2.2.2.2.2) (mi_al_e)))))))) (fun h1 W _ hst => let ⟨_, k1, k2⟩ := kon h1 W; mf_call (M := (2, 0, sb_18)) (M' := (2, 0, sb_35)) rfl rfl rfl rfl (Nat.le_of_ble_eq_true rfl) (Nat.le_of_ble_eq_true rfl) W.1 k1 k2)
set_option maxRecDepth 20000 in
theorem mp_avC_5 (h : sm_H) (d : Nat) (zz : Int) : mj_path [(18, (2, 0, sb_18)), (23, (1, 4, sb_23)), (22, (1, 1, sb_22))] sx_sk h 25 [1, 0, 1, 1, 0] (d + 10, 18, 39, [some (.inr (.inr 77)), none], [.inl (zz)], [], []) = some ((d + 10, 18, 83, [some (.inr (.inr 77)), some (.inl (zz))], [.inr (.inr 77)], [], []), [(mi_f h 9858) < (mi_f h 6657), ((97 : Int)) ≤ zz, ((122 : Int)) < zz, ((0 : Int)) = 0 ∨ ((0 : Int)) = 1, ((0 : Int)) = ((0 : Int)), zz = ((34 : Int))]) := rfl
theorem mi_tab_avC_5 : ∀ e ∈ ([(18, (2, 0, sb_18)), (23, (1, 4, sb_23)), (22, (1, 1, sb_22))] : mi_T), sc_P e.1 = some e.2 := mi_tb mi_P18 (mi_tb mi_P23 (mi_tb mi_P22 (mi_tb_e)))
set_option maxRecDepth 20000 in
theorem ms_avC_5 {h : sm_H} {d : Nat} {Q : Option mi_V → sm_H → Prop} {zz : Int} (hS : ab_Sh sx_sk h) (ok_zz : mi_in zz) (ho : ((mi_f h 9858) < (mi_f h 6657)) ∧ (((97 : Int)) ≤ zz) ∧ (((122 : Int)) < zz) ∧ (((0 : Int)) = 0 ∨ ((0 : Int)) = 1) ∧ (((0 : Int)) = ((0 : Int))) ∧ (zz = ((34 : Int)))) (kon : ∀ h1, me_W [] h h1 → ∃ Q1, me_E (d + 9) 33 0 (mi_entry 3 [.inr (.inr 77)]) [] h1 Q1 ∧ ∀ w h2, (∀ x, w = some x → mi_ok x) → Q1 w h2 → me_E (d + 10) 18 86 [some (.inr (.inr 77)), some (.inl (zz))] (mi_back w []) h2 Q) : me_E (d + 10) 18 39 [some (.inr (.inr 77)), none] [.inl (zz)] h Q := mf_seg (mp_avC_5 h d zz) (mi_tab_avC_5) hS (mi_okL_c (trivial) (mi_okL_n (mi_okL_e))) (mi_okS_cons (ok_zz) (mi_okS_e)) (mi_al (ho.1) (mi_al (ho.2.1) (mi_al (ho.2.2.1) (mi_al (ho.2.2.2.1) (mi_al (ho.2.2.2.2.1) (mi_al (ho.2.2.2.2.2) (mi_al_e))))))) (fun h1 W _ hst => let ⟨_, k1, k2⟩ := kon h1 W; mf_call (M := (2, 0, sb_18)) (M' := (3, 0, sb_33)) rfl rfl rfl rfl (Nat.le_of_ble_eq_true rfl) (Nat.le_of_ble_eq_true rfl) W.1 k1 k2)
set_option maxRecDepth 20000 in
theorem mp_avC_6 (h : sm_H) (d : Nat) (zz : Int) : mj_path [(18, (2, 0, sb_18)), (23, (1, 4, sb_23)), (22, (1, 1, sb_22))] sx_sk h 23 [1, 0, 0, 0] (d + 10, 18, 39, [some (.inr (.inr 77)), none], [.inl (zz)], [], []) = some ((d + 10, 18, 70, [some (.inr (.inr 77)), some (.inl (zz))], [.inr (.inr 77)], [], []), [(mi_f h 9858) < (mi_f h 6657), ((97 : Int)) ≤ zz, zz ≤ ((122 : Int)), ((1 : Int)) = 0 ∨ ((1 : Int)) = 1, ((1 : Int)) ≠ ((0 : Int))]) := rfl
theorem mi_tab_avC_6 : ∀ e ∈ ([(18, (2, 0, sb_18)), (23, (1, 4, sb_23)), (22, (1, 1, sb_22))] : mi_T), sc_P e.1 = some e.2 := mi_tb mi_P18 (mi_tb mi_P23 (mi_tb mi_P22 (mi_tb_e)))
set_option maxRecDepth 20000 in
theorem ms_avC_6 {h : sm_H} {d : Nat} {Q : Option mi_V → sm_H → Prop} {zz : Int} (hS : ab_Sh sx_sk h) (ok_zz : mi_in zz) (ho : ((mi_f h 9858) < (mi_f h 6657)) ∧ (((97 : Int)) ≤ zz) ∧ (zz ≤ ((122 : Int))) ∧ (((1 : Int)) = 0 ∨ ((1 : Int)) = 1) ∧ (((1 : Int)) ≠ ((0 : Int)))) (kon : ∀ h1, me_W [] h h1 → ∃ Q1, me_E (d + 9) 24 0 (mi_entry 1 [.inr (.inr 77)]) [] h1 Q1 ∧ ∀ w h2, (∀ x, w = some x → mi_ok x) → Q1 w h2 → me_E (d + 10) 18 73 [some (.inr (.inr 77)), some (.inl (zz))] (mi_back w []) h2 Q) : me_E (d + 10) 18 39 [some (.inr (.inr 77)), none] [.inl (zz)] h Q := mf_seg (mp_avC_6 h d zz) (mi_tab_avC_6) hS (mi_okL_c (trivial) (mi_okL_n (mi_okL_e))) (mi_okS_cons (ok_zz) (mi_okS_e)) (mi_al (ho.1) (mi_al (ho.2.1) (mi_al (ho.2.2.1) (mi_al (ho.2.2.2.1) (mi_al (ho.2.2.2.2) (mi_al_e)))))) (fun h1 W _ hst => let ⟨_, k1, k2⟩ := kon h1 W; mf_call (M := (2, 0, sb_18)) (M' := (1, 0, sb_24)) rfl rfl rfl rfl (Nat.le_of_ble_eq_true rfl) (Nat.le_of_ble_eq_true rfl) W.1 k1 k2)
set_option maxRecDepth 20000 in
theorem mp_avC_7 (h : sm_H) (d : Nat) (zz : Int) : mj_path [(18, (2, 0, sb_18)), (23, (1, 4, sb_23)), (22, (1, 1, sb_22))] sx_sk h 14 [0] (d + 10, 18, 39, [some (.inr (.inr 77)), none], [.inl (zz)], [], []) = some ((d + 10, 18, 107, [some (.inr (.inr 77)), some (.inl (zz))], [], [.inl (9859, (0 : Int))], []), [(mi_f h 6657) ≤ (mi_f h 9858)]) := rfl
theorem mi_tab_avC_7 : ∀ e ∈ ([(18, (2, 0, sb_18)), (23, (1, 4, sb_23)), (22, (1, 1, sb_22))] : mi_T), sc_P e.1 = some e.2 := mi_tb mi_P18 (mi_tb mi_P23 (mi_tb mi_P22 (mi_tb_e)))
set_option maxRecDepth 20000 in
theorem ms_avC_7 {h : sm_H} {d : Nat} {Q : Option mi_V → sm_H → Prop} {zz : Int} (hS : ab_Sh sx_sk h) (ok_zz : mi_in zz) (ho : ((mi_f h 6657) ≤ (mi_f h 9858))) (kon : ∀ h1, me_W [.inl (9859, (0 : Int))] h h1 → Q none h1) : me_E (d + 10) 18 39 [some (.inr (.inr 77)), none] [.inl (zz)] h Q := mf_seg (mp_avC_7 h d zz) (mi_tab_avC_7) hS (mi_okL_c (trivial) (mi_okL_n (mi_okL_e))) (mi_okS_cons (ok_zz) (mi_okS_e)) (mi_al (ho) (mi_al_e)) (fun h1 W _ hst => mf_ret (M := (2, 0, sb_18)) rfl rfl rfl hst (mi_al_e) (kon h1 W))
set_option maxRecDepth 20000 in
theorem mt_avC {h : sm_H} {d : Nat} {Q : Option mi_V → sm_H → Prop} {zz : Int} (hS : ab_Sh sx_sk h) (ok_zz : mi_in zz) (k0 : (0 ≤ mi_f h 9858 ∧ mi_f h 9858 ≤ 241) → (0 ≤ mi_f h 6657 ∧ mi_f h 6657 ≤ 240) → ((mi_f h 9858) < (mi_f h 6657)) → (zz < ((97 : Int))) → (zz ≠ ((34 : Int))) → (zz ≠ ((39 : Int))) → (∀ h1, ab_Sh sx_sk h1 → ab_Fr [] h h1 → ∃ Q1, me_E (d + 9) 39 0 (mi_entry 2 [.inr (.inr 77), .inl (zz)]) [] h1 Q1 ∧ ∀ w h2, (∀ x, w = some x → mi_ok x) → Q1 w h2 → me_E (d + 10) 18 107 [some (.inr (.inr 77)), some (.inl (zz))] (mi_back w []) h2 Q)) (k1 : (0 ≤ mi_f h 9858 ∧ mi_f h 9858 ≤ 241) → (0 ≤ mi_f h 6657 ∧ mi_f h 6657 ≤ 240) → ((mi_f h 9858) < (mi_f h 6657)) → (zz < ((97 : Int))) → (zz ≠ ((34 : Int))) → (zz = ((39 : Int))) → (∀ h1, ab_Sh sx_sk h1 → ab_Fr [] h h1 → ∃ Q1, me_E (d + 9) 35 0 (mi_entry 2 [.inr (.inr 77)]) [] h1 Q1 ∧ ∀ w h2, (∀ x, w = some x → mi_ok x) → Q1 w h2 → me_E (d + 10) 18 99 [some (.inr (.inr 77)), some (.inl (zz))] (mi_back w []) h2 Q)) (k2 : (0 ≤ mi_f h 9858 ∧ mi_f h 9858 ≤ 241) → (0 ≤ mi_f h 6657 ∧ mi_f h 6657 ≤ 240) → ((mi_f h 9858) < (mi_f h 6657)) → (zz < ((97 : Int))) → (zz = ((34 : Int))) → (∀ h1, ab_Sh sx_sk h1 → ab_Fr [] h h1 → ∃ Q1, me_E (d + 9) 33 0 (mi_entry 3 [.inr (.inr 77)]) [] h1 Q1 ∧ ∀ w h2, (∀ x, w = some x → mi_ok x) → Q1 w h2 → me_E (d + 10) 18 86 [some (.inr (.inr 77)), some (.inl (zz))] (mi_back w []) h2 Q)) (k3 : (0 ≤ mi_f h 9858 ∧ mi_f h 9858 ≤ 241) → (0 ≤ mi_f h 6657 ∧ mi_f h 6657 ≤ 240) → ((mi_f h 9858) < (mi_f h 6657)) → (((97 : Int)) ≤ zz) → (((122 : Int)) < zz) → (zz ≠ ((34 : Int))) → (zz ≠ ((39 : Int))) → (∀ h1, ab_Sh sx_sk h1 → ab_Fr [] h h1 → ∃ Q1, me_E (d + 9) 39 0 (mi_entry 2 [.inr (.inr 77), .inl (zz)]) [] h1 Q1 ∧ ∀ w h2, (∀ x, w = some x → mi_ok x) → Q1 w h2 → me_E (d + 10) 18 107 [some (.inr (.inr 77)), some (.inl (zz))] (mi_back w []) h2 Q)) (k4 : (0 ≤ mi_f h 9858 ∧ mi_f h 9858 ≤ 241) → (0 ≤ mi_f h 6657 ∧ mi_f h 6657 ≤ 240) → ((mi_f h 9858) < (mi_f h 6657)) → (((97 : Int)) ≤ zz) → (((122 : Int)) < zz) → (zz ≠ ((34 : Int))) → (zz = ((39 : Int))) → (∀ h1, ab_Sh sx_sk h1 → ab_Fr [] h h1 → ∃ Q1, me_E (d + 9) 35 0 (mi_entry 2 [.inr (.inr 77)]) [] h1 Q1 ∧ ∀ w h2, (∀ x, w = some x → mi_ok x) → Q1 w h2 → me_E (d + 10) 18 99 [some (.inr (.inr 77)), some (.inl (zz))] (mi_back w []) h2 Q)) (k5 : (0 ≤ mi_f h 9858 ∧ mi_f h 9858 ≤ 241) → (0 ≤ mi_f h 6657 ∧ mi_f h 6657 ≤ 240) → ((mi_f h 9858) < (mi_f h 6657)) → (((97 : Int)) ≤ zz) → (((122 : Int)) < zz) → (zz = ((34 : Int))) → (∀ h1, ab_Sh sx_sk h1 → ab_Fr [] h h1 → ∃ Q1, me_E (d + 9) 33 0 (mi_entry 3 [.inr (.inr 77)]) [] h1 Q1 ∧ ∀ w h2, (∀ x, w = some x → mi_ok x) → Q1 w h2 → me_E (d + 10) 18 86 [some (.inr (.inr 77)), some (.inl (zz))] (mi_back w []) h2 Q)) (k6 : (0 ≤ mi_f h 9858 ∧ mi_f h 9858 ≤ 241) → (0 ≤ mi_f h 6657 ∧ mi_f h 6657 ≤ 240) → ((mi_f h 9858) < (mi_f h 6657)) → (((97 : Int)) ≤ zz) → (zz ≤ ((122 : Int))) → (∀ h1, ab_Sh sx_sk h1 → ab_Fr [] h h1 → ∃ Q1, me_E (d + 9) 24 0 (mi_entry 1 [.inr (.inr 77)]) [] h1 Q1 ∧ ∀ w h2, (∀ x, w = some x → mi_ok x) → Q1 w h2 → me_E (d + 10) 18 73 [some (.inr (.inr 77)), some (.inl (zz))] (mi_back w []) h2 Q)) (k7 : (0 ≤ mi_f h 6657 ∧ mi_f h 6657 ≤ 240) → (0 ≤ mi_f h 9858 ∧ mi_f h 9858 ≤ 241) → ((mi_f h 6657) ≤ (mi_f h 9858)) → (∀ h1, ab_Sh sx_sk h1 → mi_f h1 9859 = (0 : Int) → ab_Fr [(9859, 9860)] h h1 → Q none h1)) : me_E (d + 10) 18 39 [some (.inr (.inr 77)), none] [.inl (zz)] h Q := Or.elim (mi_em .lt ((mi_f h 9858)) ((mi_f h 6657))) (fun c0 => Or.elim (mi_em .lt (zz) (((97 : Int)))) (fun c1 => Or.elim (mi_em .ne (zz) (((34 : Int)))) (fun c2 => Or.elim (mi_em .ne (zz) (((39 : Int)))) (fun c3 => ms_avC_0 hS ok_zz ⟨c0, c1, (by decide), (by decide), c2, c3⟩ (fun h1 W => (k0 (me_fb hS rfl) (me_fb hS rfl) c0 c1 c2 c3) h1 W.1 (W.2.2.2.2.2 _ rfl))) (fun c3 => ms_avC_1 hS ok_zz ⟨c0, c1, (by decide), (by decide), c2, c3⟩ (fun h1 W => (k1 (me_fb hS rfl) (me_fb hS rfl) c0 c1 c2 c3) h1 W.1 (W.2.2.2.2.2 _ rfl)))) (fun c2 => ms_avC_2 hS ok_zz ⟨c0, c1, (by decide), (by decide), c2⟩ (fun h1 W => (k2 (me_fb hS rfl) (me_fb hS rfl) c0 c1 c2) h1 W.1 (W.2.2.2.2.2 _ rfl)))) (fun c1 => Or.elim (mi_em .gt (zz) (((122 : Int)))) (fun c2 => Or.elim (mi_em .ne (zz) (((34 : Int)))) (fun c3 => Or.elim (mi_em .ne (zz) (((39 : Int)))) (fun c4 => ms_avC_3 hS ok_zz ⟨c0, c1, c2, (by decide), (by decide), c3, c4⟩ (fun h1 W => (k3 (me_fb hS rfl) (me_fb hS rfl) c0 c1 c2 c3 c4) h1 W.1 (W.2.2.2.2.2 _ rfl))) (fun c4 => ms_avC_4 hS ok_zz ⟨c0, c1, c2, (by decide), (by decide), c3, c4⟩ (fun h1 W => (k4 (me_fb hS rfl) (me_fb hS rfl) c0 c1 c2 c3 c4) h1 W.1 (W.2.2.2.2.2 _ rfl)))) (fun c3 => ms_avC_5 hS ok_zz ⟨c0, c1, c2, (by decide), (by decide), c3⟩ (fun h1 W => (k5 (me_fb hS rfl) (me_fb hS rfl) c0 c1 c2 c3) h1 W.1 (W.2.2.2.2.2 _ rfl)))) (fun c2 => ms_avC_6 hS ok_zz ⟨c0, c1, c2, (by decide), (by decide)⟩ (fun h1 W => (k6 (me_fb hS rfl) (me_fb hS rfl) c0 c1 c2) h1 W.1 (W.2.2.2.2.2 _ rfl))))) (fun c0 => ms_avC_7 hS ok_zz (c0) (fun h1 W => (k7 (me_fb hS rfl) (me_fb hS rfl) c0) h1 W.1 (W.2.1 9859) (W.2.2.2.2.2 _ rfl)))
set_option maxRecDepth 20000 in
theorem mp_av73_0 (h : sm_H) (d : Nat) (zc : Int) : mj_path [(18, (2, 0, sb_18))] sx_sk h 1 [] (d + 10, 18, 73, [some (.inr (.inr 77)), some (.inl (zc))], [], [], []) = some ((d + 10, 18, 107, [some (.inr (.inr 77)), some (.inl (zc))], [], [], []), []) := rfl
theorem mi_tab_av73_0 : ∀ e ∈ ([(18, (2, 0, sb_18))] : mi_T), sc_P e.1 = some e.2 := mi_tb mi_P18 (mi_tb_e)
set_option maxRecDepth 20000 in
theorem ms_av73_0 {h : sm_H} {d : Nat} {Q : Option mi_V → sm_H → Prop} {zc : Int} (hS : ab_Sh sx_sk h) (ok_zc : mi_in zc) (kon : ∀ h1, me_W [] h h1 → Q none h1) : me_E (d + 10) 18 73 [some (.inr (.inr 77)), some (.inl (zc))] [] h Q := mf_seg (mp_av73_0 h d zc) (mi_tab_av73_0) hS (mi_okL_c (trivial) (mi_okL_c (ok_zc) (mi_okL_e))) (mi_okS_e) (mi_al_e) (fun h1 W _ hst => mf_ret (M := (2, 0, sb_18)) rfl rfl rfl hst (mi_al_e) (kon h1 W))
set_option maxRecDepth 20000 in
theorem mt_av73 {h : sm_H} {d : Nat} {Q : Option mi_V → sm_H → Prop} {zc : Int} (hS : ab_Sh sx_sk h) (ok_zc : mi_in zc) (k0 : (∀ h1, ab_Sh sx_sk h1 → ab_Fr [] h h1 → Q none h1)) : me_E (d + 10) 18 73 [some (.inr (.inr 77)), some (.inl (zc))] [] h Q := ms_av73_0 hS ok_zc (fun h1 W => (k0) h1 W.1 (W.2.2.2.2.2 _ rfl))
set_option maxRecDepth 20000 in
theorem mp_av86_0 (h : sm_H) (d : Nat) (zc : Int) : mj_path [(18, (2, 0, sb_18))] sx_sk h 1 [] (d + 10, 18, 86, [some (.inr (.inr 77)), some (.inl (zc))], [], [], []) = some ((d + 10, 18, 107, [some (.inr (.inr 77)), some (.inl (zc))], [], [], []), []) := rfl
theorem mi_tab_av86_0 : ∀ e ∈ ([(18, (2, 0, sb_18))] : mi_T), sc_P e.1 = some e.2 := mi_tb mi_P18 (mi_tb_e)
set_option maxRecDepth 20000 in
theorem ms_av86_0 {h : sm_H} {d : Nat} {Q : Option mi_V → sm_H → Prop} {zc : Int} (hS : ab_Sh sx_sk h) (ok_zc : mi_in zc) (kon : ∀ h1, me_W [] h h1 → Q none h1) : me_E (d + 10) 18 86 [some (.inr (.inr 77)), some (.inl (zc))] [] h Q := mf_seg (mp_av86_0 h d zc) (mi_tab_av86_0) hS (mi_okL_c (trivial) (mi_okL_c (ok_zc) (mi_okL_e))) (mi_okS_e) (mi_al_e) (fun h1 W _ hst => mf_ret (M := (2, 0, sb_18)) rfl rfl rfl hst (mi_al_e) (kon h1 W))
set_option maxRecDepth 20000 in
theorem mt_av86 {h : sm_H} {d : Nat} {Q : Option mi_V → sm_H → Prop} {zc : Int} (hS : ab_Sh sx_sk h) (ok_zc : mi_in zc) (k0 : (∀ h1, ab_Sh sx_sk h1 → ab_Fr [] h h1 → Q none h1)) : me_E (d + 10) 18 86 [some (.inr (.inr 77)), some (.inl (zc))] [] h Q := ms_av86_0 hS ok_zc (fun h1 W => (k0) h1 W.1 (W.2.2.2.2.2 _ rfl))
set_option maxRecDepth 20000 in
theorem mp_av99_0 (h : sm_H) (d : Nat) (zc : Int) : mj_path [(18, (2, 0, sb_18))] sx_sk h 1 [] (d + 10, 18, 99, [some (.inr (.inr 77)), some (.inl (zc))], [], [], []) = some ((d + 10, 18, 107, [some (.inr (.inr 77)), some (.inl (zc))], [], [], []), []) := rfl
theorem mi_tab_av99_0 : ∀ e ∈ ([(18, (2, 0, sb_18))] : mi_T), sc_P e.1 = some e.2 := mi_tb mi_P18 (mi_tb_e)
set_option maxRecDepth 20000 in
theorem ms_av99_0 {h : sm_H} {d : Nat} {Q : Option mi_V → sm_H → Prop} {zc : Int} (hS : ab_Sh sx_sk h) (ok_zc : mi_in zc) (kon : ∀ h1, me_W [] h h1 → Q none h1) : me_E (d + 10) 18 99 [some (.inr (.inr 77)), some (.inl (zc))] [] h Q := mf_seg (mp_av99_0 h d zc) (mi_tab_av99_0) hS (mi_okL_c (trivial) (mi_okL_c (ok_zc) (mi_okL_e))) (mi_okS_e) (mi_al_e) (fun h1 W _ hst => mf_ret (M := (2, 0, sb_18)) rfl rfl rfl hst (mi_al_e) (kon h1 W))
set_option maxRecDepth 20000 in
theorem mt_av99 {h : sm_H} {d : Nat} {Q : Option mi_V → sm_H → Prop} {zc : Int} (hS : ab_Sh sx_sk h) (ok_zc : mi_in zc) (k0 : (∀ h1, ab_Sh sx_sk h1 → ab_Fr [] h h1 → Q none h1)) : me_E (d + 10) 18 99 [some (.inr (.inr 77)), some (.inl (zc))] [] h Q := ms_av99_0 hS ok_zc (fun h1 W => (k0) h1 W.1 (W.2.2.2.2.2 _ rfl))
set_option maxRecDepth 20000 in
theorem mp_av107_0 (h : sm_H) (d : Nat) (zc : Int) : mj_path [(18, (2, 0, sb_18))] sx_sk h 0 [] (d + 10, 18, 107, [some (.inr (.inr 77)), some (.inl (zc))], [], [], []) = some ((d + 10, 18, 107, [some (.inr (.inr 77)), some (.inl (zc))], [], [], []), []) := rfl
theorem mi_tab_av107_0 : ∀ e ∈ ([(18, (2, 0, sb_18))] : mi_T), sc_P e.1 = some e.2 := mi_tb mi_P18 (mi_tb_e)
set_option maxRecDepth 20000 in
theorem ms_av107_0 {h : sm_H} {d : Nat} {Q : Option mi_V → sm_H → Prop} {zc : Int} (hS : ab_Sh sx_sk h) (ok_zc : mi_in zc) (kon : ∀ h1, me_W [] h h1 → Q none h1) : me_E (d + 10) 18 107 [some (.inr (.inr 77)), some (.inl (zc))] [] h Q := mf_seg (mp_av107_0 h d zc) (mi_tab_av107_0) hS (mi_okL_c (trivial) (mi_okL_c (ok_zc) (mi_okL_e))) (mi_okS_e) (mi_al_e) (fun h1 W _ hst => mf_ret (M := (2, 0, sb_18)) rfl rfl rfl hst (mi_al_e) (kon h1 W))
set_option maxRecDepth 20000 in
theorem mt_av107 {h : sm_H} {d : Nat} {Q : Option mi_V → sm_H → Prop} {zc : Int} (hS : ab_Sh sx_sk h) (ok_zc : mi_in zc) (k0 : (∀ h1, ab_Sh sx_sk h1 → ab_Fr [] h h1 → Q none h1)) : me_E (d + 10) 18 107 [some (.inr (.inr 77)), some (.inl (zc))] [] h Q := ms_av107_0 hS ok_zc (fun h1 W => (k0) h1 W.1 (W.2.2.2.2.2 _ rfl))
