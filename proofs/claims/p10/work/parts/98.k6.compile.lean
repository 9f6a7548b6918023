/-! the law's case 3: compile -/
section C63
variable {L : Nat} {xs : Nat → Int32} {QL : sm_H → Prop}
theorem cm_mj : (ab_sub_wr cm_W mj_wr) = true := by decide
set_option maxRecDepth 20000 in
set_option maxHeartbeats 2000000 in
theorem c9_3 {x : Int32} {a b c : Option Value} {h : sm_H} {C S : Nat} (hL : L ≤ 2048) (hx : 0 ≤ x.toInt ∧ x.toInt + 4 ≤ (L : Int)) (hSh : ab_Sh sx_sk h) (hJ : lj_J M9 L xs h) (hC : h.length + 1 ≤ C) (hS : sm_sl h + 6 ≤ S)
    (kk : ∀ (a b c : Option Value) (h' : sm_H), ab_Sh sx_sk h' → lj_J M9 L xs h' → h'.length ≤ C → sm_sl h' ≤ S → lb_Ends sc_P sc_PW sl_tab 300 609 (xl_ls x a b c) [] h' QL) : lb_Ends sc_P sc_PW sl_tab 300 210 (xl_ls x a b c) [] h QL := by
  have hT := hJ.1.2.2.1
  obtain ⟨t1, t2, t3⟩ := hT
  obtain ⟨g0, hG⟩ := PG_of hSh
  refine lb_Ends.step (q := (.aload_n 1, 1, [])) rfl rfl ?_
  have k1 : me_E 33 12 0 [some (.inr (.inr 51)), none] [] h (fun w h' => (∀ i : {g0 : wk_g // PG (mi_f h 13953) (mi_a h 110) g0}, cm_Q (mi_f h 13953) (mi_a h 110) i.1 h w h' ∧ cm_5 (mi_f h 13953) (mi_a h 110) i.1 w h') ∧ (ab_Sh sx_sk h' ∧ ab_Fr cmf_W h h' ∧ mi_f h' 12032 = 0 ∧ mi_f h' 12544 = 0)) := (me_E.all ⟨g0, hG⟩ (fun i => (me_compilec (d := 0) hSh t3 t1 t2 i.2).and (me_compile5 (d := 0) hSh t3 t1 t2 i.2))).and (me_compile0c (d := 0) hSh)
  refine lb_Ends.callP (q := (.invokevirtual 76, 3, [0, 0, 0, 12])) (M' := (2, 1, sb_12)) rfl (c3_own9 hSh rfl) rfl rfl (by decide) (by simp) ((me_run9 (nl := 2) (as := [.inr (.inr 51)]) rfl k1).deep (by decide)) (fun v h1 hq => ?_)
  obtain ⟨w, rfl, -, hq, -, n1, n2, n3⟩ := hq
  obtain ⟨⟨⟨y, rfl, oy⟩, q1, q2, -⟩, -⟩ := hq ⟨g0, hG⟩
  refine lb_Ends.step (q := (.pop, 1, [])) rfl rfl ?_
  refine lb_Ends.step (q := (.aload_n 2, 1, [])) rfl rfl ?_
  refine lb_Ends.callP (q := (.invokevirtual 79, 3, [0, 0, 11, 175])) (M' := (2, 1, sb_175)) rfl (c3_virt q1 rfl) rfl rfl (by decide) (by simp) ((me_run9 (nl := 2) (as := [.inr (.inr 109)]) rfl (((me_compilex q1).and (me_compile5r q1)).and (me_compile0r q1))).deep (by decide)) (fun v h2 hq2 => ?_)
  obtain ⟨w, rfl, -, ⟨⟨⟨z, rfl, -⟩, r1, r2, r3, g1, r4, r5⟩, ⟨z', ez, -, g1', r4', r5'⟩⟩, -, o1, o2, o3, o4, o5⟩ := hq2
  refine lb_Ends.step (q := (.pop, 1, [])) rfl rfl ?_
  refine lb_Ends.step (q := (.goto 389, 3, [])) rfl rfl ?_
  have ez : z' = z := by injection ez with ez; injection ez with ez; exact ez.symm
  subst ez
  have f1 := me_f (c := 13953) q2 hSh rfl rfl
  have a1 : mi_a h1 110 = mi_a h 110 := funext fun i => me_a (k := 110) q2 hSh rfl rfl
  rw [f1, a1] at r4 r5 r4' r5'
  have hc := (hq ⟨g1, r4⟩).1.2.2.2
  have same : y = z' := ans_same (h2 := h2) q1 (hq ⟨g1', r4'⟩).2 r5'
  subst same
  have hrc : r9_c h2 := r9_both q1 r1 r2 hc (hq ⟨g1, r4⟩).2 r5 r4'.1 (hq ⟨g1', r4'⟩).1.2.2.2 (hq ⟨g1', r4'⟩).2 r5'
  have hj := lj_fr (MJ := MJ) mj_MJ ⟨hJ.1.1, hJ.2⟩ cm_mj q2
  have f2 := me_f (c := 13953) r2 q1 rfl rfl
  have a2 : mi_a h2 110 = mi_a h1 110 := funext fun i => me_a (k := 110) r2 q1 rfl rfl
  have f3 := me_f (c := 6657) q2 hSh rfl rfl
  have a3 : mi_a h1 53 = mi_a h 53 := funext fun i => me_a (k := 53) q2 hSh rfl rfl
  have f4 := me_f (c := 6657) r2 q1 rfl rfl
  have a4 : mi_a h2 53 = mi_a h1 53 := funext fun i => me_a (k := 53) r2 q1 rfl rfl
  have ht : rl_t h2 := by
    refine ⟨by rw [f4, f3, f2, f1]; exact t1, by rw [a4, a3, a2, a1]; exact t2, ?_⟩
    unfold cx_ok
    rw [f4, f3, a4, a3]
    exact t3
  have hR2 : R9 h2 := by
    have qa := rq_fr hSh n1
    have qb := rq_fr q1 o1
    have q : rq (cmf_W ++ mr_Vc) h h2 := (qa.wide (by decide)).trans (qb.wide (by decide))
    have z1 : mi_f h2 12032 = 0 := (qb.f (c := 12032) rfl (by decide)).trans n2
    have z2 : mi_f h2 12544 = 0 := (qb.f (c := 12544) rfl (by decide)).trans n3
    refine ⟨ht, r9_i_q q (by decide) hJ.1.2.2.2.1, r9_o_q q (by decide) hJ.1.2.2.2.2.1, hrc, ⟨[], ⟨o3, fun k hk => absurd hk (Nat.not_lt_zero k), fun k j hk => absurd hk (Nat.not_lt_zero k)⟩, ⟨⟨z1, fun k hk => absurd hk (Nat.not_lt_zero k)⟩, fo_nil, fun k hk => absurd hk (Nat.not_lt_zero k)⟩, Nat.zero_le _, fun c => absurd rfl c⟩, ⟨⟨by rw [z2, o4], fun i hi => by rw [o4] at hi; omega⟩, o5⟩⟩
  refine kk _ _ _ h2 r1 ⟨⟨mj_of r1 r3, r1, hR2⟩, by rw [r2.1]; exact hj.2.1, r2.2.2 0 _ hj.2.2 (by decide)⟩ (by rw [r2.1, q2.1]; omega) (by rw [r2.2.1, q2.2.1]; omega)
end C63
