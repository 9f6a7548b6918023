/-! choose, swap of the reference, in parsing, exactly -/
theorem pm_it_5 {g : wk_g} : ∀ (n : Nat) (u : Int), ∀ x ∈ wk_it g n u, x.1 ≠ 5 := by
  intro n
  induction n with
  | zero => intro u x hx; cases hx
  | succ n ih =>
    intro u x hx
    unfold wk_it at hx
    by_cases c : u < 0
    · rw [if_pos c] at hx
      cases hx
    · rw [if_neg c] at hx
      by_cases c2 : 0 ≤ g 124 u.toNat
      · rw [if_pos c2] at hx
        rcases List.mem_cons.mp hx with rfl | hx
        · show (0 : Int) ≠ 5
          decide
        rcases List.mem_cons.mp hx with rfl | hx
        · show (3 : Int) ≠ 5
          decide
        rcases List.mem_cons.mp hx with rfl | hx
        · show (0 : Int) ≠ 5
          decide
        rcases List.mem_cons.mp hx with rfl | hx
        · show (4 : Int) ≠ 5
          decide
        exact ih _ x hx
      · rw [if_neg c2] at hx
        rcases List.mem_cons.mp hx with rfl | hx
        · show (0 : Int) ≠ 5
          decide
        exact ih _ x hx
section PX4
variable {h : sm_H} {d : Nat} {zf : Int} {s : gm_S}
theorem me_choosep {U : Int} (hi : px_in h s) (hf0 : 0 ≤ zf) (hf1 : zf < 80) (hf : wk_fa (mi_a h) zf) (hC : wk_C (mi_a h) U) (hfi : ∀ j : Nat, (j : Int) < mi_a h 130 zf.toNat → mi_a h 126 (wk_alt (mi_a h) j (mi_a h 129 zf.toNat)).toNat < 0 ∨ mi_a h 126 (wk_alt (mi_a h) j (mi_a h 129 zf.toNat)).toNat < U) (hlen : ∀ j : Nat, (j : Int) < mi_a h 130 zf.toNat → ((wk_it (mi_a h) 61 (mi_a h 126 (wk_alt (mi_a h) j (mi_a h 129 zf.toNat)).toNat)).length : Int) + mi_f h 14029 + 1 ≤ 2999) : me_E (d + 6) 223 0 [some (.inr (.inr 109)), some (.inl zf), none, none, none, none] [] h (pxm_Q h (pm_fo (mi_a h) (px_E h) zf (wk_stk h) s)) := by
  obtain ⟨i1, i2, i3, i4, i5, i6, i7, i8, i9, i10, i11, i12, i13⟩ := hi
  have of : mi_in zf := ⟨by omega, by omega⟩
  have b11 := me_fb (c := 14011) i1 rfl
  obtain ⟨n0, n1, n2⟩ := i10 rfl
  have n160 : mi_f h 14033 ≤ 160 := by clear hlen hfi; omega
  have eF : mi_f h 14033 = gm_F s := i9.2.1
  have st2 : ∀ {g : wk_g} {n : Nat} {u : Int}, ∀ x ∈ wk_it g n u ++ (2, 0, 0) :: wk_stk h, x.1 = 5 → x ∈ wk_stk h := fun {g n u} x hx x5 => by
    rcases List.mem_append.mp hx with hx | hx
    · exact absurd x5 (pm_it_5 n u x hx)
    · rcases List.mem_cons.mp hx with rfl | hx
      · exact absurd x5 (show ¬ (2 : Int) = 5 by decide)
      · exact hx
  have st1 : ∀ {g : wk_g} {n : Nat} {u : Int}, ∀ x ∈ wk_it g n u ++ wk_stk h, x.1 = 5 → x ∈ wk_stk h := fun {g n u} x hx x5 => by
    rcases List.mem_append.mp hx with hx | hx
    · exact absurd x5 (pm_it_5 n u x hx)
    · exact hx
  -- behind the choice
  have go80 : ∀ j : Nat, (j : Int) < mi_a h 130 zf.toNat → me_E (d + 6) 223 80 [some (.inr (.inr 109)), some (.inl zf), some (.inl (0 : Int)), some (.inl (mi_a h 129 zf.toNat)), none, none] [.inl (j : Int)] h (pxm_Q h ((gm_c 4 (j : Int) s).map (fun t => (wk_it (mi_a h) 61 (mi_a h 126 (wk_alt (mi_a h) j (mi_a h 129 zf.toNat)).toNat) ++ (2, 0, 0) :: wk_stk h, gm_d t)))) := by
    intro j hz1
    have b130 := me_ab (k := 130) (i := zf.toNat) i1 rfl (by decide) (by clear hlen hfi; omega)
    have oz : mi_in (j : Int) := ⟨by clear hlen hfi; omega, by clear hlen hfi; omega⟩
    refine mt_chD i1 of ⟨by decide, by decide⟩ (mi_inT _) oz ?_ ?_
    · intro c h2' r1 r2
      have e2 := me_nil r2
      subst e2
      refine mt_chD2 i1 of oz (mi_inT _) ?_
      intro h3 s1' s2
      have e3 := me_nil s2
      subst e3
      have ez : ((Int32.ofInt (j : Int)).toInt64).toInt = (j : Int) := by rw [Int32.toInt_toInt64, mi_ti oz]
      refine ⟨_, me_comesp (d := d + 5) i1 i2 ⟨by decide, by decide⟩ i9, ?_⟩
      intro w h4 hw hq
      obtain ⟨q1, q2, ⟨z, rfl⟩, q3⟩ := hq
      rw [ez] at q3
      have n29 : mi_f h4 14029 = mi_f h3 14029 := me_f (c := 14029) q2 i1 rfl rfl
      have n32 : mi_f h4 14032 = mi_f h3 14032 := me_f (c := 14032) q2 i1 rfl rfl
      have nst : wk_stk h4 = wk_stk h3 := wk_stk_fr q2 i1 rfl
      have nF : ab_Fr wr_W1 h3 h4 := q2.wide (fun c hc => ab_swr_ok (by decide) hc)
      have hlj := hlen j hz1
      refine mt_chE q1 of oz (mi_inT _) (hw _ rfl) ?_
      intro b1
      refine ⟨by clear hlen hfi; omega, fun h5 t1 t2 t3 a5 a6 a7 t4 => ?_⟩
      have est := wk_push1 (by omega) t2 a5 a6 a7
      rw [nst] at est
      have F5 : ab_Fr wr_W1 h3 h5 := nF.trans (t4.wide (fun c hc => ab_swr_ok (by decide) hc))
      have hg : wk_gc (mi_a h3) (mi_a h5) := wk_gc_fr F5 i1 rfl
      have hC5 : wk_C (mi_a h5) U := by
        refine ⟨hC.1, fun u u0 u1 => ?_⟩
        rw [hg 124 (by decide), hg 125 (by decide), hg 124 (by decide)]
        exact hC.2 u u0 u1
      have hf5 : wk_fa (mi_a h5) zf := by
        unfold wk_fa
        rw [hg 130 (by decide), hg 129 (by decide), wk_alt_g hg]
        refine ⟨hf.1, hf.2.1, fun j hj => ?_⟩
        rw [wk_alt_g hg]
        exact hf.2.2 j hj
      have ea : wk_alt (mi_a h5) j (mi_a h5 129 zf.toNat) = wk_alt (mi_a h3) j (mi_a h3 129 zf.toNat) := by rw [wk_alt_g hg, hg 129 (by decide)]
      have haj := hf.2.2 j hz1
      have hfj := hfi j hz1
      generalize hA : wk_alt (mi_a h3) j (mi_a h3 129 zf.toNat) = A at ea haj hfj hlj
      have key := ch127 (d := d) (Q := pxm_Q h3 ((gm_c 4 (j : Int) s).map (fun t => (wk_it (mi_a h3) 61 (mi_a h3 126 A.toNat) ++ (2, 0, 0) :: wk_stk h3, gm_d t)))) t1 of hf0 hf1 hf5 (j := j) (by rw [hg 130 (by decide)]; exact hz1) (fun zj ozj => by
        rw [ea]
        refine (ch146 (U := U) t1 of oz (fun v hv => by cases hv; exact ozj) hC5 haj.1 haj.2 (by rw [hg 126 (by decide)]; exact hfj) (by clear hlen hfi; omega) (by rw [wk_it_g hg, hg 126 (by decide)]; clear hlen hfi; omega)).imp (fun w h' hq => ?_)
        obtain ⟨p1, p2, p3, p4, p5⟩ := hq
        have F6 : ab_Fr wr_W1 h3 h' := F5.trans (p3.wide (fun c hc => ab_swr_ok (by decide) hc))
        have e44 : mi_f h' 14044 = mi_f h4 14044 := (me_f (c := 14044) p3 t1 rfl rfl).trans (me_f (c := 14044) t4 q1 rfl rfl)
        have e34 : mi_f h' 14034 = mi_f h3 14034 := ((me_f (c := 14034) p3 t1 rfl rfl).trans (me_f (c := 14034) t4 q1 rfl rfl)).trans (me_f (c := 14034) q2 i1 rfl rfl)
        refine ⟨p1, p2, F6, ?_⟩
        rcases q3 with ⟨e1, e2⟩ | ⟨e1, -, -, t, e2, e3⟩
        · exact Or.inl ⟨by rw [e1]; rfl, Or.inl (e44.trans e2)⟩
        · have eT := (gm_c_t e2).2.2.2.1
          refine Or.inr ⟨e44.trans e1, by rw [e34]; exact i4, (wk_it (mi_a h3) 61 (mi_a h3 126 A.toNat) ++ (2, 0, 0) :: wk_stk h3, gm_d t), by rw [e2]; rfl, ?_, px_R_st (px_R_fr (px_R_d e3 t4 q1 rfl rfl rfl rfl (by clear hlen hfi; omega) (by clear hlen hfi; omega) t3) p3 t1 rfl rfl rfl rfl rfl) st2, ?_⟩
          · rw [p5, wk_it_g hg, hg 126 (by decide), est]
          · rw [me_f (c := 14032) p3 t1 rfl rfl, me_f (c := 14032) t4 q1 rfl rfl, n32, i6]
            exact wk_ul_it2.symm) (j + 1) 0 (by clear hlen hfi; omega) (Nat.zero_le _)
      rw [hg 129 (by decide)] at key
      exact key
    · intro b c
      exfalso; clear hlen hfi; omega
  refine mt_chA i1 of ?_ ?_ ?_ ?_ ?_
  · intro c1
    have h1c : (1 : Int) ≤ mi_a h 130 zf.toNat := hf.1
    have h0l : ((0 : Nat) : Int) < mi_a h 130 zf.toNat := by clear hlen hfi; omega
    have hl0 := hlen 0 h0l
    have ha0 := hf.2.2 0 h0l
    have hf0' := hfi 0 h0l
    refine ⟨by clear hlen hfi; omega, fun h1 g1 g2 => ?_⟩
    have e1 := me_nil g2
    subst e1
    unfold pm_fo
    rw [if_neg (by clear hlen hfi; omega)]
    refine (ch146 (U := U) g1 of ⟨by decide, by decide⟩ (fun v hv => by cases hv) hC ha0.1 ha0.2 hf0' i5 (by
      clear hlen hfi
      omega)).imp (fun w h' hq => ?_)
    obtain ⟨p1, p2, p3, p4, p5⟩ := hq
    exact ⟨p1, p2, p3.wide (fun c hc => ab_swr_ok (by decide) hc), Or.inr ⟨(me_f (c := 14044) p3 g1 rfl rfl).trans i3, by rw [me_f (c := 14034) p3 g1 rfl rfl]; exact i4, _, rfl, p5, px_R_st (px_R_fr i9 p3 g1 rfl rfl rfl rfl rfl) st1, by rw [me_f (c := 14032) p3 g1 rfl rfl, i6]; exact wk_ul_it.symm⟩⟩
  · intro b1 b2 c1 c2 c3 c4
    exact absurd i2 c2
  · intro b1 b2 c1 c2 c3 c4
    exact absurd i2 c2
  · intro b1 b2 c1 c2 c3
    exact absurd i2 c2
  · intro b1 c1 c2
    refine ⟨by clear hlen hfi; omega, fun h1 g1 g2 => ?_⟩
    have e1 := me_nil g2
    subst e1
    refine ⟨_, me_directedx (d := d + 4) i1 n0 n160 hf0 hf1 hf eF, ?_⟩
    intro w h3 hw hq
    obtain ⟨rfl, rfl⟩ := hq
    unfold pm_fo
    rw [if_pos c1]
    cases hz : pm_w (mi_a h3) (px_E h3) zf s with
    | none =>
      refine mt_chB i1 of ⟨by decide, by decide⟩ (mi_inT _) ⟨by decide, by decide⟩ ?_
      intro h4 g3 g4
      have e4 := me_nil g4
      subst e4
      refine mt_chD i1 of ⟨by decide, by decide⟩ (mi_inT _) ⟨by decide, by decide⟩ ?_ ?_
      · intro c
        exact absurd c (by decide)
      · intro b c
        have bf := me_ab (k := 153) (i := (mi_f h4 14033).toNat) i1 rfl (by decide) (by clear hlen hfi; omega)
        refine ⟨by clear hlen hfi; omega, fun h5 k1 k2 k3 => ⟨rfl, k1, k3.wide (fun c hc => ab_swr_ok (by decide) hc), Or.inl ⟨rfl, Or.inr (by rw [k2]; exact bf.1)⟩⟩⟩
    | some n =>
      obtain ⟨j, j1, j2, -⟩ := pm_dr_e _ _ _ _ hz
      have ej : n = (j : Int) := by clear hlen hfi; omega
      subst ej
      have b130 := me_ab (k := 130) (i := zf.toNat) i1 rfl (by decide) (by clear hlen hfi; omega)
      refine mt_chB i1 of ⟨by decide, by decide⟩ (mi_inT _) ⟨by show (-2147483648 : Int) ≤ (j : Int); clear hlen hfi; omega, by show (j : Int) ≤ 2147483647; clear hlen hfi; omega⟩ ?_
      intro h4 g3 g4
      have e4 := me_nil g4
      subst e4
      exact go80 j (by clear hlen hfi; omega)
theorem me_swapp {r : List wk_E} {p : Nat × Nat} {q : List (Nat × Nat)} (hS : ab_Sh sx_sk h) (hR : px_R h (r, s)) (hP : gm_P s = p :: q) (hq : q.length < 64) (p0 : p.2 ≠ 0) (p1 : p.1 ≤ p.2) (p2 : p.2 ≤ (gm_T s).length) (hlt : ∀ x ∈ r, x.1 = 5 → x.2.2 < (p.1 : Int)) : me_E d 226 0 [some (.inr (.inr 109)), none, none, none, none] [] h (fun w h' => w = none ∧ ab_Sh sx_sk h' ∧ ab_Fr wr_sw h h' ∧ px_R h' (r, gm_tu s)) := by
  have b16 := me_fb (c := 14016) hS rfl
  obtain ⟨r1, r2, r3, r4, r5, r6⟩ := hR
  dsimp only at r1 r2 r3 r4 r5 r6
  have r16 := r1.1
  rw [hP] at r4 r5
  rw [List.length_cons] at r4
  obtain ⟨a1, a2, a3⟩ := r5
  have a2 := a2.resolve_left p0
  have ei : (mi_f h 14030 - 1).toNat = q.length := by omega
  refine mt_swA hS ?_
  intro b
  rw [ei, a1, a2]
  refine ⟨by omega, fun h1 g1 g2 g3 => ?_⟩
  have e16 : mi_f h1 14016 = mi_f h 14016 := me_f (c := 14016) g3 hS rfl rfl
  refine (sw34x (mi_f h 14016) (by omega) (by omega) (by omega) (by omega) b16.2 200 0 h1 (by omega) (by decide) (by omega) e16 g1 (fun i hi => by omega)).imp (fun w h' hq' => ?_)
  obtain ⟨q1, q2, q3, q4, q5⟩ := hq'
  have e160 : mi_a h1 160 = mi_a h 160 := funext fun i => me_a (k := 160) g3 hS rfl rfl
  rw [e160] at q5
  have F : ab_Fr wr_sw h h' := (g3.wide (fun c hc => ab_swr_ok (by decide) hc)).trans q3
  refine ⟨q1, q2, F, ?_⟩
  have etu : gm_tu s = (gm_X s, gm_F s, gm_rot p.1 p.2 (gm_T s), gm_D s, q) := by
    unfold gm_tu
    rw [hP]
  rw [etu]
  unfold px_R gm_len
  dsimp only
  simp only [gm_T_mk, gm_F_mk, gm_D_mk, gm_P_mk, gm_rot_len]
  refine ⟨gx_T_sw r1 p1 p2 (me_f (c := 14016) F hS rfl rfl) (fun i => me_a (k := 158) F hS rfl rfl) (fun i => me_a (k := 159) F hS rfl rfl) (fun i => me_b (k := 163) F hS rfl rfl) (fun i => ?_), (me_f (c := 14033) F hS rfl rfl).trans r2, (me_f (c := 14031) F hS rfl rfl).trans r3, by rw [q4, g2, r4]; omega, gx_P_fr F hS rfl _ a3, fun x hx x5 => ?_⟩
  · rw [q5, r16]
  · obtain ⟨x1, x2, x3⟩ := r6 x hx x5
    have x4 := hlt x hx x5
    refine ⟨x1, x2, ?_⟩
    rw [q5]
    unfold sw_o
    rw [if_pos (by omega)]
    exact x3
end PX4
