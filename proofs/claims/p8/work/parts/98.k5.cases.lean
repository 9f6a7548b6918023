/-! the law's cases 0, 1, 2, 3 -/
section C6
variable {L : Nat} {xs : Nat → Int32} {QL : sm_H → Prop}
set_option maxRecDepth 20000 in
set_option maxHeartbeats 2000000 in
theorem c6_0 {x : Int32} {a b c : Option Value} {h : sm_H} {C S : Nat} (hL : L ≤ 2048) (hx : 0 ≤ x.toInt ∧ x.toInt + 4 ≤ (L : Int)) (hSh : ab_Sh sx_sk h) (hJ : lj_J M8 L xs h) (hC : h.length + 1 ≤ C) (hS : sm_sl h + 6 ≤ S)
    (kk : ∀ (a b c : Option Value) (h' : sm_H), ab_Sh sx_sk h' → lj_J M8 L xs h' → h'.length ≤ C → sm_sl h' ≤ S → lb_Ends sc_P sc_PW sl_tab 300 602 (xl_ls x a b c) [] h' QL) : lb_Ends sc_P sc_PW sl_tab 300 112 (xl_ls x a b c) [] h QL := by
  have e1 := lj_add (c := 1) (by decide) hx hL
  have e1a : 0 ≤ (x + Int32.ofInt 1).toInt := by omega
  have e1b : (x + Int32.ofInt 1).toInt < (L : Int) := by omega
  obtain ⟨p1, hp1⟩ : ∃ p, xs (x + Int32.ofInt 1).toNatClampNeg = p := ⟨_, rfl⟩
  have e2 := lj_add (c := 2) (by decide) hx hL
  have e2a : 0 ≤ (x + Int32.ofInt 2).toInt := by omega
  have e2b : (x + Int32.ofInt 2).toInt < (L : Int) := by omega
  obtain ⟨p2, hp2⟩ : ∃ p, xs (x + Int32.ofInt 2).toNatClampNeg = p := ⟨_, rfl⟩
  refine lb_Ends.step (q := (.aload_n 1, 1, [])) rfl rfl ?_
  refine lb_Ends.step (q := (.aload_n 0, 1, [])) rfl rfl ?_
  refine lb_Ends.step (q := (.iload 4, 2, [])) rfl rfl ?_
  refine lb_Ends.step (q := (.iconst 1, 1, [])) rfl rfl ?_
  refine lb_Ends.step (q := (.iadd, 1, [])) rfl rfl ?_
  refine lb_Ends.step (q := (.iaload, 1, [])) rfl (lj_load (i := x + Int32.ofInt 1) hJ ⟨e1a, e1b⟩) ?_
  rw [hp1]
  refine lb_Ends.step (q := (.aload_n 0, 1, [])) rfl rfl ?_
  refine lb_Ends.step (q := (.iload 4, 2, [])) rfl rfl ?_
  refine lb_Ends.step (q := (.iconst 2, 1, [])) rfl rfl ?_
  refine lb_Ends.step (q := (.iadd, 1, [])) rfl rfl ?_
  refine lb_Ends.step (q := (.iaload, 1, [])) rfl (lj_load (i := x + Int32.ofInt 2) hJ ⟨e2a, e2b⟩) ?_
  rw [hp2]
  refine lb_Ends.step (q := (.i2c, 1, [])) rfl rfl ?_
  refine lb_Ends.step (q := (.aload_n 3, 1, [])) rfl rfl ?_
  obtain ⟨z0, z1⟩ := chr_bd p2
  obtain ⟨T, hT, k⟩ := we_type (p := p1) z0 z1 hSh (lh_0.mpr hJ)
  refine lb_Ends.callW (q := (.invokestatic 63, 3, [0, 2000, 4])) (M := ((5, 1, sw_0), sw_h0)) rfl rfl rfl (by decide : (sm_slots [Value.ref 51, .int 0, .int 0, .ref 171]).length ≤ 5) (by simp) ((ww_type hSh k).deep (by decide)) (fun v h1 hq => ?_)
  obtain ⟨⟨y, rfl⟩, g1, g2, g3, g4⟩ := hq
  refine lb_Ends.step (q := (.istore 5, 2, [])) (ls' := xl_ls x (some (.int y)) b c) rfl rfl ?_
  refine lb_Ends.step (q := (.aload_n 2, 1, [])) rfl rfl ?_
  refine lb_Ends.step (q := (.aload_n 0, 1, [])) rfl rfl ?_
  refine lb_Ends.step (q := (.iload 4, 2, [])) rfl rfl ?_
  refine lb_Ends.step (q := (.iconst 1, 1, [])) rfl rfl ?_
  refine lb_Ends.step (q := (.iadd, 1, [])) rfl rfl ?_
  refine lb_Ends.step (q := (.iaload, 1, [])) rfl (lj_load (i := x + Int32.ofInt 1) g2.1 ⟨e1a, e1b⟩) ?_
  rw [hp1]
  refine lb_Ends.step (q := (.aload_n 0, 1, [])) rfl rfl ?_
  refine lb_Ends.step (q := (.iload 4, 2, [])) rfl rfl ?_
  refine lb_Ends.step (q := (.iconst 2, 1, [])) rfl rfl ?_
  refine lb_Ends.step (q := (.iadd, 1, [])) rfl rfl ?_
  refine lb_Ends.step (q := (.iaload, 1, [])) rfl (lj_load (i := x + Int32.ofInt 2) g2.1 ⟨e2a, e2b⟩) ?_
  rw [hp2]
  refine lb_Ends.step (q := (.i2c, 1, [])) rfl rfl ?_
  refine lb_Ends.callP (q := (.invokevirtual 68, 3, [0, 2, 11, 171])) (M' := (3, 4, sb_171)) rfl (c3_virt g1 rfl) rfl rfl (by decide : (sm_slots [Value.ref 109, .int 0, .int 0]).length ≤ 3) (by simp) ((wm_type z0 z1 g1 g2 hT).deep (by decide)) (fun v h2 hq => ?_)
  obtain ⟨⟨w, rfl⟩, m1, m2, m3, m4⟩ := hq
  refine lb_Ends.step (q := (.istore 6, 2, [])) (ls' := xl_ls x (some (.int y)) (some (.int w)) c) rfl rfl ?_
  refine lb_Ends.step (q := (.goto 451, 3, [])) rfl rfl ?_
  exact kk _ _ _ h2 m1 m2 (by omega) (by omega)
set_option maxRecDepth 20000 in
set_option maxHeartbeats 2000000 in
theorem c6_1 {x : Int32} {a b c : Option Value} {h : sm_H} {C S : Nat} (hL : L ≤ 2048) (hx : 0 ≤ x.toInt ∧ x.toInt + 4 ≤ (L : Int)) (hSh : ab_Sh sx_sk h) (hJ : lj_J M8 L xs h) (hC : h.length + 1 ≤ C) (hS : sm_sl h + 6 ≤ S)
    (kk : ∀ (a b c : Option Value) (h' : sm_H), ab_Sh sx_sk h' → lj_J M8 L xs h' → h'.length ≤ C → sm_sl h' ≤ S → lb_Ends sc_P sc_PW sl_tab 300 602 (xl_ls x a b c) [] h' QL) : lb_Ends sc_P sc_PW sl_tab 300 154 (xl_ls x a b c) [] h QL := by
  have e1 := lj_add (c := 1) (by decide) hx hL
  have e1a : 0 ≤ (x + Int32.ofInt 1).toInt := by omega
  have e1b : (x + Int32.ofInt 1).toInt < (L : Int) := by omega
  obtain ⟨p1, hp1⟩ : ∃ p, xs (x + Int32.ofInt 1).toNatClampNeg = p := ⟨_, rfl⟩
  refine lb_Ends.step (q := (.aload_n 1, 1, [])) rfl rfl ?_
  refine lb_Ends.step (q := (.aload_n 0, 1, [])) rfl rfl ?_
  refine lb_Ends.step (q := (.iload 4, 2, [])) rfl rfl ?_
  refine lb_Ends.step (q := (.iconst 1, 1, [])) rfl rfl ?_
  refine lb_Ends.step (q := (.iadd, 1, [])) rfl rfl ?_
  refine lb_Ends.step (q := (.iaload, 1, [])) rfl (lj_load (i := x + Int32.ofInt 1) hJ ⟨e1a, e1b⟩) ?_
  rw [hp1]
  refine lb_Ends.step (q := (.aload_n 3, 1, [])) rfl rfl ?_
  obtain ⟨T, hT, k⟩ := we_clear (p := p1) hSh (lh_0.mpr hJ)
  refine lb_Ends.callW (q := (.invokestatic 69, 3, [0, 2001, 3])) (M := ((4, 1, sw_1), sw_h1)) rfl rfl rfl (by decide : (sm_slots [Value.ref 51, .int 0, .ref 171]).length ≤ 4) (by simp) ((ww_clear hSh k).deep (by decide)) (fun v h1 hq => ?_)
  obtain ⟨⟨y, rfl⟩, g1, g2, g3, g4⟩ := hq
  refine lb_Ends.step (q := (.istore 5, 2, [])) (ls' := xl_ls x (some (.int y)) b c) rfl rfl ?_
  refine lb_Ends.step (q := (.aload_n 2, 1, [])) rfl rfl ?_
  refine lb_Ends.step (q := (.aload_n 0, 1, [])) rfl rfl ?_
  refine lb_Ends.step (q := (.iload 4, 2, [])) rfl rfl ?_
  refine lb_Ends.step (q := (.iconst 1, 1, [])) rfl rfl ?_
  refine lb_Ends.step (q := (.iadd, 1, [])) rfl rfl ?_
  refine lb_Ends.step (q := (.iaload, 1, [])) rfl (lj_load (i := x + Int32.ofInt 1) g2.1 ⟨e1a, e1b⟩) ?_
  rw [hp1]
  refine lb_Ends.callP (q := (.invokevirtual 72, 3, [0, 1, 11, 172])) (M' := (3, 1, sb_172)) rfl (c3_virt g1 rfl) rfl rfl (by decide : (sm_slots [Value.ref 109, .int 0]).length ≤ 3) (by simp) ((wm_clear g1 g2 hT).deep (by decide)) (fun v h2 hq => ?_)
  obtain ⟨⟨w, rfl⟩, m1, m2, m3, m4⟩ := hq
  refine lb_Ends.step (q := (.istore 6, 2, [])) (ls' := xl_ls x (some (.int y)) (some (.int w)) c) rfl rfl ?_
  refine lb_Ends.step (q := (.goto 423, 3, [])) rfl rfl ?_
  exact kk _ _ _ h2 m1 m2 (by omega) (by omega)
set_option maxRecDepth 20000 in
set_option maxHeartbeats 2000000 in
theorem c6_2 {x : Int32} {a b c : Option Value} {h : sm_H} {C S : Nat} (hL : L ≤ 2048) (hx : 0 ≤ x.toInt ∧ x.toInt + 4 ≤ (L : Int)) (hSh : ab_Sh sx_sk h) (hJ : lj_J M8 L xs h) (hC : h.length + 1 ≤ C) (hS : sm_sl h + 6 ≤ S)
    (kk : ∀ (a b c : Option Value) (h' : sm_H), ab_Sh sx_sk h' → lj_J M8 L xs h' → h'.length ≤ C → sm_sl h' ≤ S → lb_Ends sc_P sc_PW sl_tab 300 602 (xl_ls x a b c) [] h' QL) : lb_Ends sc_P sc_PW sl_tab 300 182 (xl_ls x a b c) [] h QL := by
  have e1 := lj_add (c := 1) (by decide) hx hL
  have e1a : 0 ≤ (x + Int32.ofInt 1).toInt := by omega
  have e1b : (x + Int32.ofInt 1).toInt < (L : Int) := by omega
  obtain ⟨p1, hp1⟩ : ∃ p, xs (x + Int32.ofInt 1).toNatClampNeg = p := ⟨_, rfl⟩
  refine lb_Ends.step (q := (.aload_n 1, 1, [])) rfl rfl ?_
  refine lb_Ends.step (q := (.aload_n 0, 1, [])) rfl rfl ?_
  refine lb_Ends.step (q := (.iload 4, 2, [])) rfl rfl ?_
  refine lb_Ends.step (q := (.iconst 1, 1, [])) rfl rfl ?_
  refine lb_Ends.step (q := (.iadd, 1, [])) rfl rfl ?_
  refine lb_Ends.step (q := (.iaload, 1, [])) rfl (lj_load (i := x + Int32.ofInt 1) hJ ⟨e1a, e1b⟩) ?_
  rw [hp1]
  refine lb_Ends.step (q := (.aload_n 3, 1, [])) rfl rfl ?_
  obtain ⟨T, hT, k⟩ := we_sample (p := p1) hSh (lh_0.mpr hJ)
  refine lb_Ends.callW (q := (.invokestatic 73, 3, [0, 2002, 3])) (M := ((4, 1, sw_2), sw_h2)) rfl rfl rfl (by decide : (sm_slots [Value.ref 51, .int 0, .ref 171]).length ≤ 4) (by simp) ((ww_sample hSh k).deep (by decide)) (fun v h1 hq => ?_)
  obtain ⟨⟨y, rfl⟩, g1, g2, g3, g4⟩ := hq
  refine lb_Ends.step (q := (.istore 5, 2, [])) (ls' := xl_ls x (some (.int y)) b c) rfl rfl ?_
  refine lb_Ends.step (q := (.aload_n 2, 1, [])) rfl rfl ?_
  refine lb_Ends.step (q := (.aload_n 0, 1, [])) rfl rfl ?_
  refine lb_Ends.step (q := (.iload 4, 2, [])) rfl rfl ?_
  refine lb_Ends.step (q := (.iconst 1, 1, [])) rfl rfl ?_
  refine lb_Ends.step (q := (.iadd, 1, [])) rfl rfl ?_
  refine lb_Ends.step (q := (.iaload, 1, [])) rfl (lj_load (i := x + Int32.ofInt 1) g2.1 ⟨e1a, e1b⟩) ?_
  rw [hp1]
  refine lb_Ends.callP (q := (.invokevirtual 75, 3, [0, 1, 11, 173])) (M' := (2, 1, sb_173)) rfl (c3_virt g1 rfl) rfl rfl (by decide : (sm_slots [Value.ref 109, .int 0]).length ≤ 2) (by simp) ((wm_sample g1 g2 hT).deep (by decide)) (fun v h2 hq => ?_)
  obtain ⟨⟨w, rfl⟩, m1, m2, m3, m4⟩ := hq
  refine lb_Ends.step (q := (.istore 6, 2, [])) (ls' := xl_ls x (some (.int y)) (some (.int w)) c) rfl rfl ?_
  refine lb_Ends.step (q := (.goto 395, 3, [])) rfl rfl ?_
  exact kk _ _ _ h2 m1 m2 (by omega) (by omega)
theorem cm_mj : (ab_sub_wr cm_W mj_wr) = true := by decide
set_option maxRecDepth 20000 in
set_option maxHeartbeats 2000000 in
theorem c6_3 {x : Int32} {a b c : Option Value} {h : sm_H} {C S : Nat} (hL : L ≤ 2048) (hx : 0 ≤ x.toInt ∧ x.toInt + 4 ≤ (L : Int)) (hSh : ab_Sh sx_sk h) (hJ : lj_J M8 L xs h) (hC : h.length + 1 ≤ C) (hS : sm_sl h + 6 ≤ S)
    (kk : ∀ (a b c : Option Value) (h' : sm_H), ab_Sh sx_sk h' → lj_J M8 L xs h' → h'.length ≤ C → sm_sl h' ≤ S → lb_Ends sc_P sc_PW sl_tab 300 602 (xl_ls x a b c) [] h' QL) : lb_Ends sc_P sc_PW sl_tab 300 210 (xl_ls x a b c) [] h QL := by
  have hT := hJ.1.2.2.2.1
  obtain ⟨t1, t2, t3⟩ := hT
  obtain ⟨g0, hG⟩ := PG_of hSh
  refine lb_Ends.step (q := (.aload_n 1, 1, [])) rfl rfl ?_
  have k1 : me_E 33 12 0 [some (.inr (.inr 51)), none] [] h (fun w h' => ∀ i : {g0 : wk_g // PG (mi_f h 13953) (mi_a h 110) g0}, cm_Q (mi_f h 13953) (mi_a h 110) i.1 h w h' ∧ cm_5 (mi_f h 13953) (mi_a h 110) i.1 w h') := me_E.all ⟨g0, hG⟩ (fun i => (me_compilec (d := 0) hSh t3 t1 t2 i.2).and (me_compile5 (d := 0) hSh t3 t1 t2 i.2))
  refine lb_Ends.callP (q := (.invokevirtual 76, 3, [0, 0, 0, 12])) (M' := (2, 1, sb_12)) rfl (c3_own hSh rfl) rfl rfl (by decide) (by simp) ((me_run (M := (2, 1, sb_12)) (as := [.inr (.inr 51)]) rfl k1).deep (by decide)) (fun v h1 hq => ?_)
  obtain ⟨w, rfl, -, hq⟩ := hq
  obtain ⟨⟨⟨y, rfl, oy⟩, q1, q2, -⟩, -⟩ := hq ⟨g0, hG⟩
  refine lb_Ends.step (q := (.pop, 1, [])) rfl rfl ?_
  refine lb_Ends.step (q := (.aload_n 2, 1, [])) rfl rfl ?_
  refine lb_Ends.callP (q := (.invokevirtual 79, 3, [0, 0, 11, 175])) (M' := (2, 1, sb_175)) rfl (c3_virt q1 rfl) rfl rfl (by decide) (by simp) ((me_run (M := (2, 1, sb_175)) (as := [.inr (.inr 109)]) rfl ((me_compilex q1).and (me_compile5r q1))).deep (by decide)) (fun v h2 hq2 => ?_)
  obtain ⟨w, rfl, -, ⟨⟨z, rfl, -⟩, r1, r2, r3, g1, r4, r5⟩, ⟨z', ez, -, g1', r4', r5'⟩⟩ := hq2
  refine lb_Ends.step (q := (.pop, 1, [])) rfl rfl ?_
  refine lb_Ends.step (q := (.goto 382, 3, [])) rfl rfl ?_
  have ez : z' = z := by injection ez with ez; injection ez with ez; exact ez.symm
  subst ez
  have f1 := me_f (c := 13953) q2 hSh rfl rfl
  have a1 : mi_a h1 110 = mi_a h 110 := funext fun i => me_a (k := 110) q2 hSh rfl rfl
  rw [f1, a1] at r4 r5 r4' r5'
  have hc := (hq ⟨g1, r4⟩).1.2.2.2
  have same : y = z' := ans_same (h2 := h2) q1 (hq ⟨g1', r4'⟩).2 r5'
  subst same
  have hrc := r8_both q1 r2 hc (hq ⟨g1, r4⟩).2 r5 (hq ⟨g1', r4'⟩).1.2.2.2 (hq ⟨g1', r4'⟩).2 r5'
  have hj := lj_fr (MJ := MJ) mj_MJ ⟨hJ.1.1, hJ.2⟩ cm_mj q2
  have f2 := me_f (c := 13953) r2 q1 rfl rfl
  have a2 : mi_a h2 110 = mi_a h1 110 := funext fun i => me_a (k := 110) r2 q1 rfl rfl
  have f3 := me_f (c := 6657) q2 hSh rfl rfl
  have a3 : mi_a h1 53 = mi_a h 53 := funext fun i => me_a (k := 53) q2 hSh rfl rfl
  have f4 := me_f (c := 6657) r2 q1 rfl rfl
  have a4 : mi_a h2 53 = mi_a h1 53 := funext fun i => me_a (k := 53) r2 q1 rfl rfl
  have ht : rl_t h2 := by
    refine ⟨by rw [f4, f3, f2, f1]; exact t1, by rw [a4, a3, a2, a1]; exact t2, ?_⟩
    unfold cx_ok
    rw [f4, f3, a4, a3]
    exact t3
  refine kk _ _ _ h2 r1 ⟨⟨mj_of r1 r3, R8_of r1 ht hrc⟩, by rw [r2.1]; exact hj.2.1, r2.2.2 0 _ hj.2.2 (by decide)⟩ (by rw [r2.1, q2.1]; omega) (by rw [r2.2.1, q2.2.1]; omega)
end C6
