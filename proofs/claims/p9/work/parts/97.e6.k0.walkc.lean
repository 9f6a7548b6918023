/-! the class's printing walk follows the replay: a use, a part -/
def vpp_H (f : Int → Int) (it : Int → Prop) (g : wk_g) (Y : wk_Y) (kw : Int → Bool) (Lr : Nat → Int) (h : sm_H) : Prop := cg_G f it g Y kw h ∧ vpp_G Lr g Y h ∧ mi_f h 12032 ≤ 100
/-- the nodes that are to be printed, what they tell -/
def vpp_A (g : wk_g) (h : sm_H) (s s' : gm_S) (q : Nat) (L : List (Int × Int)) (A : List (Int × Int × Int)) : Prop := gm_T s' = gm_T s ++ A ∧ rh h q A ∧ (q : Int) + A.length ≤ mi_f h 12032 ∧ (∀ e ∈ L, vpp_e g e) ∧ mi_f h 13832 + L.length ≤ 100000 ∧ ∀ x ∈ A, x.1 % 10 = 5 → x.2.1 ≤ 161
def vpp_F (f : Int → Int) (it : Int → Prop) (g : wk_g) (Y : wk_Y) (kw : Int → Bool) (Lr : Nat → Int) (V : Int → Int) (D : Nat) (zd : Int) : Prop := ∀ (h : sm_H) (s s' : gm_S) (u F : Int) (q n : Nat) (L : List (Int × Int)) (A : List (Int × Int × Int)) (o : ox), vpp_in h u q o → vpp_H f it g Y kw Lr h → 0 ≤ F → F < wk_f Y → 1 ≤ u → u ≤ 12 → zd ≤ 5 * (u - 1) + wk_d Y F → rn g V n u [(1, F, 0)] s s' L → vpp_A g h s s' q L A → me_E D 120 0 [some (.inr (.inr 108)), some (.inl (f F)), some (.inl zd), none, none, none, none, none, none, none, none] [] h (vq Lr g h u (q + A.length) L (some o))
section VW0
variable {f : Int → Int} {it : Int → Prop} {g : wk_g} {Y : wk_Y} {kw : Int → Bool} {Lr : Nat → Int} {V : Int → Int} {d : Nat}
theorem vpp_F_deep {D D' : Nat} {zd : Int} (h : vpp_F f it g Y kw Lr V D zd) (hd : D ≤ D') : vpp_F f it g Y kw Lr V D' zd := fun h1 s s' u F q n L A o a1 a2 a3 a4 a5 a6 a7 a8 a9 => (h h1 s s' u F q n L A o a1 a2 a3 a4 a5 a6 a7 a8 a9).deep hd
theorem vpp_H_fr {h h' : sm_H} {wr : List (Nat × Nat)} (hH : vpp_H f it g Y kw Lr h) (hF : ab_Fr wr h h') (hS : ab_Sh sx_sk h) (hw : cg_w wr = true) (hw2 : (ab_in wr 8832 || ab_in wr 9600 || ab_in wr 11776) = false) (hw3 : ab_in wr 12032 = false) : vpp_H f it g Y kw Lr h' := ⟨cg_G_fr hH.1 hF hS hw, vpp_G_fr hH.2.1 hF hS hw2, by rw [me_f (c := 12032) hF hS rfl hw3]; exact hH.2.2⟩
theorem vpp_rep {h : sm_H} (hH : vpp_H f it g Y kw Lr h) : ∀ p, 0 ≤ p → p < wk_u Y → 0 ≤ g 122 p.toNat ∧ g 122 p.toNat ≤ 2 := fun p p0 p1 => (hH.1.2.2.1 p p0 p1).2.2.2.2.1
/-- what a form appends -/
theorem vpp_tF {h : sm_H} (hH : vpp_H f it g Y kw Lr h) (N : Nat) : tpq_F g V Y (fun p => mi_a h 92 p.toNat) N := tpq_all hH.1.1 hH.2.1.2 (vpp_rep hH) N
/-- it has stopped -/
def vst (h0 : sm_H) (u : Int) (n : Nat) (h : sm_H) : Prop := ab_Sh sx_sk h ∧ ab_Fr wr_pw h0 h ∧ mi_f h 13829 = u ∧ oC h none ∧ 0 ≤ mi_f h 13832 ∧ mi_f h 13832 ≤ mi_f h0 13832 + n
theorem vq_st {h0 h : sm_H} {u : Int} {q n : Nat} {L : List (Int × Int)} {x : Option ox} (h1 : vst h0 u n h) (h2 : n ≤ L.length) (h3 : ofd Lr g L x = none) : vq Lr g h0 u q L x none h := by
  obtain ⟨a1, a2, a3, a4, a5, a6⟩ := h1
  refine ⟨rfl, a1, a2, a3, by rw [h3]; exact a4, fun o ho => ?_, ⟨a5, by omega⟩, fun q => absurd h3 q⟩
  rw [h3] at ho
  cases ho
theorem stv_vq {h0 h : sm_H} {u : Int} {q : Nat} {L : List (Int × Int)} {x : Option ox} {w : Option mi_V} (h1 : vq Lr g h0 u q L x w h) (h3 : ofd Lr g L x = none) : vst h0 u L.length h := by
  obtain ⟨-, a1, a2, a3, a4, -, ⟨a5, a6⟩, -⟩ := h1
  rw [h3] at a4
  exact ⟨a1, a2, a3, a4, a5, a6⟩
/-- it goes on -/
theorem in_vq {h0 h : sm_H} {u : Int} {q : Nat} {L : List (Int × Int)} {x : Option ox} {w : Option mi_V} {o : ox} (h1 : vq Lr g h0 u q L x w h) (h3 : ofd Lr g L x = some o) : vpp_in h u q o := by
  obtain ⟨-, a1, a2, a3, a4, a5, ⟨a6, -⟩, a7⟩ := h1
  rw [h3] at a4 a5 a7
  exact ⟨a1, a4, a5, a3, a7 (by simp), a6⟩
theorem vq_step {h0 h h' : sm_H} {u : Int} {q : Nat} {L0 L : List (Int × Int)} {x : Option ox} {o : ox} {w : Option mi_V} (h1 : ofd Lr g L0 x = some o) (hF : ab_Fr wr_pw h0 h) (hl : mi_f h 13832 ≤ mi_f h0 13832 + L0.length) (h2 : vq Lr g h u q L (some o) w h') : vq Lr g h0 u q (L0 ++ L) x w h' := by
  obtain ⟨a0, a1, a2, a3, a4, a5, ⟨a6, a7⟩, a8⟩ := h2
  have e : ofd Lr g (L0 ++ L) x = ofd Lr g L (some o) := by rw [ofd_app, h1]
  unfold vq
  rw [e]
  exact ⟨a0, a1, hF.trans a2, a3, a4, a5, ⟨a6, by rw [List.length_append]; omega⟩, a8⟩
theorem in_fr {h h' : sm_H} {u : Int} {q q' : Nat} {o : ox} (hi : vpp_in h u q o) (hF : ab_Fr [(13831, 13832)] h h') (hS' : ab_Sh sx_sk h') (hq : mi_f h' 13831 = (q' : Int)) : vpp_in h' u q' o ∧ mi_f h' 13832 = mi_f h 13832 := by
  obtain ⟨hS, a1, a2, a3, a4, a5⟩ := hi
  have e := me_f (c := 13832) hF hS rfl rfl
  exact ⟨⟨hS', oC_fr a1 hF hS rfl, oCw_fr a2 hF hS rfl, (me_f (c := 13829) hF hS rfl rfl).trans a3, hq, by omega⟩, e⟩
theorem stv_fr {h0 h h' : sm_H} {u : Int} {n : Nat} (hi : vst h0 u n h) (hF : ab_Fr [(13831, 13832)] h h') (hS' : ab_Sh sx_sk h') : vst h0 u n h' := by
  obtain ⟨hS, a1, a2, a3, a4, a5⟩ := hi
  have e := me_f (c := 13832) hF hS rfl rfl
  exact ⟨hS', a1.trans (hF.wide (fun c hc => ab_swr_ok (by decide) hc)), (me_f (c := 13829) hF hS rfl rfl).trans a2, oC_fr a3 hF hS rfl, by omega, by omega⟩
/-- a use -/
theorem me_wuse {h : sm_H} {t s2 : gm_S} {u i zd : Int} {q m : Nat} {o : ox} {L : List (Int × Int)} {B : List (Int × Int × Int)} (hWF : vpp_F f it g Y kw Lr V (d + 7) zd) (hi : vpp_in h u q o) (hH : vpp_H f it g Y kw Lr h) (i0 : 0 ≤ i) (i1 : i < 10) (r0 : 0 ≤ g 114 i.toNat) (r1 : g 114 i.toNat < wk_f Y) (rf : f (g 114 i.toNat) = i) (u0 : 0 ≤ u) (u1 : u < 12) (z0 : -1 ≤ zd) (z1 : zd ≤ 5 * u) (z2 : zd ≤ 1000) (hr : rn g V m (u + 1) [(1, g 114 i.toNat, 0)] (gm_d t) s2 L) (hA : vpp_A g h (gm_d t) s2 (q + 1) L B) : me_E (d + 8) 113 0 [some (.inr (.inr 108)), some (.inl i), some (.inl zd), none] [] h (vq Lr g h u (q + 1 + B.length) L (some o)) := by
  obtain ⟨hS, j1, j2, j3, j4, j5⟩ := id hi
  obtain ⟨x1, x2, x3, x4, x5, x6⟩ := hA
  have oi : mi_in i := ⟨by omega, by omega⟩
  have od : mi_in zd := ⟨by omega, by omega⟩
  have hd0 := (hH.1.1.2.2.2 _ r0 r1).1
  have n1 := hH.2.2
  refine mt_kruA (d := d) hS oi od ?_ (by intros; exfalso; omega)
  intro b c1 h1 g1 g2
  have e := me_nil g2
  subst e
  refine ⟨fun w h' => w = some (.inl (q : Int)) ∧ ab_Sh sx_sk h' ∧ mi_f h' 13831 = ((q + 1 : Nat) : Int) ∧ ab_Fr [(13831, 13832)] h1 h', mt_koen (d := d + 5) g1 ⟨by decide, by decide⟩ oi ?_, fun w h2 hw hq => ?_⟩
  · intro b1
    refine ⟨⟨⟨by omega, by omega⟩, by omega, by omega⟩, fun h2 s1 s2 s3 => ⟨congrArg (fun z : Int => some (Sum.inl z : mi_V)) (by omega), s1, by omega, s3⟩⟩
  obtain ⟨rfl, q1, q2, q3⟩ := hq
  obtain ⟨hi2, hl2⟩ := in_fr hi q3 q1 q2
  refine mt_kruB (d := d) q1 oi od ⟨by omega, by omega⟩ ?_
  intro b1
  have u2 := hi2.2.2.2.1
  refine ⟨⟨by omega, by omega⟩, fun h3 t1 t2 t3 => ?_⟩
  have hi3 : vpp_in h3 (u + 1) (q + 1) o := ⟨t1, oC_fr hi2.2.1 t3 q1 rfl, oCw_fr hi2.2.2.1 t3 q1 rfl, by omega, (me_f (c := 13831) t3 q1 rfl rfl).trans q2, by rw [me_f (c := 13832) t3 q1 rfl rfl]; exact hi2.2.2.2.2.2⟩
  have l3 : mi_f h3 13832 = mi_f h1 13832 := (me_f (c := 13832) t3 q1 rfl rfl).trans hl2
  have n3 : mi_f h3 12032 = mi_f h1 12032 := (me_f (c := 12032) t3 q1 rfl rfl).trans (me_f (c := 12032) q3 g1 rfl rfl)
  have F3 : ab_Fr wr_pw h1 h3 := (q3.wide (fun c hc => ab_swr_ok (by decide) hc)).trans (t3.wide (fun c hc => ab_swr_ok (by decide) hc))
  have hH3 : vpp_H f it g Y kw Lr h3 := vpp_H_fr hH F3 g1 rfl rfl rfl
  have key := hWF h3 (gm_d t) s2 (u + 1) (g 114 i.toNat) (q + 1) m L B o hi3 hH3 r0 r1 (by omega) (by omega) (by omega) hr ⟨x1, rh_fr x2 F3 g1 rfl, by omega, x4, by omega, x6⟩
  rw [rf] at key
  refine ⟨_, key, fun w h4 hw4 hq4 => ?_⟩
  obtain ⟨rfl, v1, v2, v3, v4, v5, ⟨v6, v7⟩, v8⟩ := hq4
  refine mt_kruC (d := d) v1 oi od ⟨by omega, by omega⟩ ?_
  intro b2
  refine ⟨⟨by omega, by omega⟩, fun h5 y1 y2 y3 => ?_⟩
  have l5 : mi_f h5 13832 = mi_f h4 13832 := me_f (c := 13832) y3 v1 rfl rfl
  exact ⟨rfl, y1, (F3.trans v2).trans (y3.wide (fun c hc => ab_swr_ok (by decide) hc)), by omega, oC_fr v4 y3 v1 rfl, oCw_fr v5 y3 v1 rfl, ⟨by omega, by omega⟩, fun q => (me_f (c := 13831) y3 v1 rfl rfl).trans (v8 q)⟩
theorem app_cancel {T A B : List (Int × Int × Int)} {T' : List (Int × Int × Int)} (h1 : T' = T ++ A) (h2 : T' = T ++ B) : A = B := List.append_cancel_left (h1.symm.trans h2)
/-- a part, once -/
theorem me_wpart {h : sm_H} {s s' : gm_S} {u p zd : Int} {q n : Nat} {o : ox} {L : List (Int × Int)} {A : List (Int × Int × Int)} (hWF : vpp_F f it g Y kw Lr V (d + 7) (zd + 1)) (hi : vpp_in h u q o) (hH : vpp_H f it g Y kw Lr h) (p0 : 0 ≤ p) (p1 : p < wk_u Y) (u0 : 1 ≤ u) (u1 : u ≤ 12) (z0 : 0 ≤ zd) (z1 : zd ≤ 5 * (u - 1) + wk_d Y (wk_c Y p)) (hr : sgr g V n u p s s' L) (hA : vpp_A g h s s' q L A) : me_E (d + 9) 132 0 [some (.inr (.inr 108)), some (.inl p), some (.inl zd), none] [] h (vq Lr g h u (q + A.length) L (some o)) := by
  have hS := hi.1
  have hu60 := hH.1.1.1
  obtain ⟨e68, e9, e10, -⟩ := hH.1.2.2.1 p p0 p1
  obtain ⟨⟨-, -, -, w1, w2⟩, -, -, l9, l10, -⟩ := hH.1.1.2.2.1 p p0 p1
  have wd := (hH.1.1.2.2.2 _ w1 w2).2.1
  have op : mi_in p := ⟨by omega, by omega⟩
  have od : mi_in zd := ⟨by omega, by omega⟩
  have o68 : mi_in (mi_a h 68 p.toNat) := mi_inT _
  have n1 := hH.2.2
  obtain ⟨x1, x2, x3, x4, x5, x6⟩ := id hA
  refine mt_krzA (d := d) hS op od (by intros; exfalso; omega) (by intros; exfalso; omega) ?_ ?_ ?_
  · -- a leaf
    intro c1 c2 c3 c4
    refine ⟨⟨by omega, by omega⟩, fun h1 g1 g2 => ?_⟩
    have e := me_nil g2
    subst e
    obtain ⟨y1, y2⟩ := sgr_lf (by omega) (by omega) hr
    subst y1
    have hlen : mi_f h1 13832 + 1 ≤ 100000 := x5
    have hAl : (g 119 p.toNat = 1 ∨ g 119 p.toNat = 2) → A.length = 1 ∧ mi_a h1 96 q = V (gm_len s) := by
      intro c
      have key : ∀ k, gm_c k (V (gm_len s)) s = some s' → A.length = 1 ∧ mi_a h1 96 q = V (gm_len s) := by
        intro k hk
        obtain ⟨-, -, t3, -, -⟩ := gm_c_t hk
        have e := app_cancel x1 t3
        subst e
        exact ⟨rfl, (rh_cons fo_nil x2).1⟩
      rcases y2 with ⟨-, b⟩ | ⟨-, b⟩ | ⟨a, b, -⟩
      · exact key _ b
      · exact key _ b
      · exfalso; omega
    have hA0 : ¬ (g 119 p.toNat = 1 ∨ g 119 p.toNat = 2) → A.length = 0 := by
      intro c
      rcases y2 with ⟨a, b⟩ | ⟨a, b⟩ | ⟨-, -, b⟩
      · exact absurd (Or.inl a) c
      · exact absurd (Or.inr a) c
      · rw [b] at x1
        have e := app_cancel x1 (List.append_nil _).symm
        rw [e]
        rfl
    have eq : (if g 119 p.toNat = 1 ∨ g 119 p.toNat = 2 then q + 1 else q) = q + A.length := by
      by_cases c : g 119 p.toNat = 1 ∨ g 119 p.toNat = 2
      · rw [if_pos c, (hAl c).1]
      · rw [if_neg c, hA0 c]
        rfl
    have key := me_wleaf (d := d + 4) hi hu60 hH.2.1 e68 p0 p1 (by omega) (by omega) (x4 _ List.mem_cons_self) (fun c => ⟨by have := (hAl c).1; omega, (hAl c).2⟩) hlen
    rw [eq] at key
    refine ⟨_, key, fun w h2 hw hq => ?_⟩
    have e := hq.1
    subst e
    refine mt_krzD hq.2.1 op od o68 ?_
    intro h3 r1 r2
    have e := me_nil r2
    subst e
    exact hq
  · -- a group
    intro c1 c2 c3 c4
    rw [e68] at c4
    obtain ⟨y1, y2, y3, y4⟩ := l10 c4
    have hf := cg_ok hH.1 y1 y2
    refine ⟨⟨⟨by omega, by omega⟩, by omega, by omega⟩, fun h1 g1 g2 => ?_⟩
    have e := me_nil g2
    subst e
    rw [e10 c4]
    refine ⟨_, (vpp_F_deep hWF (by omega : d + 7 ≤ d + 8)) h1 s s' u (g 120 p.toNat) q n L A o hi hH y1 y2 u0 u1 (by omega) (sgr_10 c4 hr) hA, fun w h2 hw hq => ?_⟩
    have e := hq.1
    subst e
    refine mt_krzC hq.2.1 op od o68 ?_
    intro h3 r1 r2
    have e := me_nil r2
    subst e
    exact hq
  · -- a use
    intro c1 c2 c3
    rw [e68] at c3
    obtain ⟨y1, y2, y3, y4, y5, y6, y7⟩ := l9 c3
    obtain ⟨w1, w2⟩ := e9 c3
    obtain ⟨k1, t, m, s2, k2, k3, k4, k5⟩ := sgr_9 c3 hr
    obtain ⟨k6, -, B, k7, k8, -⟩ := vpp_tF (V := V) hH (m + 1) m (by omega) _ _ _ _ _ y5 y6 k4
    subst k5
    have e := app_cancel x1 (node_T k2 k7)
    subst e
    obtain ⟨-, -, -, t4, -⟩ := gm_c_t k2
    obtain ⟨-, -, d3, -⟩ := gm_d_e (t := t)
    rw [d3, t4] at k8
    obtain ⟨-, -, m3⟩ := rh_cons k8 x2
    refine ⟨⟨⟨by omega, by omega⟩, by omega, by omega⟩, fun h1 g1 g2 => ?_⟩
    have e := me_nil g2
    subst e
    rw [w1]
    rw [List.length_cons] at x3
    have key := me_wuse (d := d) hWF hi hH y3 y4 y5 y6 w2 (by omega) k1 (by omega) (by omega) (by omega) k4 ⟨k7, m3, by omega, x4, x5, fun x hx => x6 x (List.mem_cons_of_mem _ hx)⟩
    refine ⟨_, key, fun w h2 hw hq => ?_⟩
    have e := hq.1
    subst e
    refine mt_krzB hq.2.1 op od o68 ?_
    intro h3 r1 r2
    have e := me_nil r2
    subst e
    rw [List.length_cons, show q + (B.length + 1) = q + 1 + B.length from by omega]
    exact hq
end VW0
