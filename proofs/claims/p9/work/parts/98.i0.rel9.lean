/-! p9: what holds between the law's calls -/
def n9_all (wr : List (Nat × Nat)) (ks fs : List Nat) : Bool := ks.all (fun k => !ab_in wr (k * 128)) && fs.all (fun c => !ab_in wr c)
def n9_ks : List Nat := r9_kc ++ [53, 110, 55, 111, 57, 112, 155, 156, 157, 162, 95, 96, 97, 99, 100, 161, 164]
def n9_fs : List Nat := [6657, 13953, 6913, 13954, 7169, 13955, 6542, 6543, 13959, 7680, 13961, 7698, 13962, 14015, 12032, 12544, 14017]
set_option maxRecDepth 20000 in
theorem n9_AF : (∀ k, k ∈ n9_ks → (mx_isA sx_sk k || mx_isB sx_sk k) = true) ∧ ∀ c, c ∈ n9_fs → mx_isF sx_sk c = true := by decide +kernel
/-- rows and fields alike -/
def eq9 (ks fs : List Nat) (h h' : sm_H) : Prop := (∀ k, k ∈ ks → ∀ i, mi_a h' k i = mi_a h k i) ∧ (∀ k, k ∈ ks → ∀ i, mx_b h' k i = mx_b h k i) ∧ ∀ c, c ∈ fs → mi_f h' c = mi_f h c
theorem eq9_rq {wr : List (Nat × Nat)} {ks fs : List Nat} {h h' : sm_H} (hq : rq wr h h') (k1 : ∀ k, k ∈ ks → k ∈ n9_ks) (f1 : ∀ c, c ∈ fs → c ∈ n9_fs) (hw : n9_all wr ks fs = true) : eq9 ks fs h h' := by
  unfold n9_all at hw
  rw [Bool.and_eq_true] at hw
  have w1 : ∀ k, k ∈ ks → ab_in wr (k * 128) = false := fun k hk => by have := List.all_eq_true.mp hw.1 k hk; simpa using this
  have w2 : ∀ c, c ∈ fs → ab_in wr c = false := fun c hc => by have := List.all_eq_true.mp hw.2 c hc; simpa using this
  exact ⟨fun k hk i => hq.a (n9_AF.1 k (k1 k hk)) (w1 k hk) i, fun k hk i => hq.b (n9_AF.1 k (k1 k hk)) (w1 k hk) i, fun c hc => hq.f (n9_AF.2 c (f1 c hc)) (w2 c hc)⟩
/-! the input, the output -/
def r9_i (h : sm_H) : Prop := mi_f h 6913 = mi_f h 13954 ∧ ∀ i : Nat, (i : Int) < mi_f h 13954 → mi_a h 55 i = mi_a h 111 i ∧ tx_al (mi_a h 111 i)
def r9_o (h : sm_H) : Prop := mi_f h 7169 = mi_f h 13955 ∧ ∀ i : Nat, (i : Int) < mi_f h 13955 → mi_a h 57 i = mi_a h 112 i ∧ tx_al (mi_a h 112 i)
/-- the tree -/
def r9_T (h : sm_H) (T : List (Int × Int × Int)) : Prop := gs_T h T ∧ gc_S h T ∧ T.length ≤ 100 ∧ (T ≠ [] → mi_f h 13959 = 2 ∧ tr_R (mi_a h) (yv h) T ∧ ∀ x ∈ T, nv_ok x ∧ (x.1 % 10 = 5 → x.2.1 ≤ 161))
/-- the tree that is kept -/
def r9_p (h : sm_H) : Prop := (mi_f h 12544 = mi_f h 14017 ∧ ∀ i : Nat, (i : Int) < mi_f h 14017 → mi_a h 99 i = mi_a h 161 i ∧ mi_a h 100 i = (mx_b h 164 i).toInt) ∧ (mi_f h 13959 = 0 → mi_f h 13961 = 0 ∧ mi_f h 13962 = 0)
def R9 (h : sm_H) : Prop := rl_t h ∧ r9_i h ∧ r9_o h ∧ r9_c h ∧ (∃ T, r9_T h T) ∧ r9_p h
section E9
variable {h h' : sm_H} {T : List (Int × Int × Int)}
def k9_t : List Nat := [53, 110]
def f9_t : List Nat := [6657, 13953]
theorem rl_t_e (e : eq9 k9_t f9_t h h') (k : rl_t h) : rl_t h' := by
  obtain ⟨a, -, f⟩ := e
  have a1 : mi_a h' 53 = mi_a h 53 := funext (a 53 (by decide))
  have a2 : mi_a h' 110 = mi_a h 110 := funext (a 110 (by decide))
  unfold rl_t cx_ok at *
  rw [f 6657 (by decide), f 13953 (by decide), a1, a2]
  exact k
def k9_i : List Nat := [55, 111]
def f9_i : List Nat := [6913, 13954]
theorem r9_i_e (e : eq9 k9_i f9_i h h') (k : r9_i h) : r9_i h' := by
  obtain ⟨a, -, f⟩ := e
  unfold r9_i at *
  rw [f 6913 (by decide), f 13954 (by decide)]
  exact ⟨k.1, fun i hi => by rw [a 55 (by decide), a 111 (by decide)]; exact k.2 i hi⟩
def k9_o : List Nat := [57, 112]
def f9_o : List Nat := [7169, 13955]
theorem r9_o_e (e : eq9 k9_o f9_o h h') (k : r9_o h) : r9_o h' := by
  obtain ⟨a, -, f⟩ := e
  unfold r9_o at *
  rw [f 7169 (by decide), f 13955 (by decide)]
  exact ⟨k.1, fun i hi => by rw [a 57 (by decide), a 112 (by decide)]; exact k.2 i hi⟩
def f9_c : List Nat := [6542, 6543, 13959, 7680, 13961, 7698, 13962]
theorem r9_c_e (e : eq9 r9_kc f9_c h h') (k : r9_c h) : r9_c h' := by
  obtain ⟨a, b, f⟩ := e
  unfold r9_c at *
  rw [f 6543 (by decide), f 13959 (by decide), f 6542 (by decide), f 7680 (by decide), f 13961 (by decide), f 7698 (by decide), f 13962 (by decide)]
  obtain ⟨k1, k2, k3⟩ := k
  refine ⟨k1, fun q => ?_, k3⟩
  obtain ⟨f', it, Y, k4⟩ := k2 q
  have hsub : ∀ c, c ∈ r9_fc → c ∈ f9_c := by decide
  exact ⟨f', it, Y, r9_k_eq (fun k hk => funext (a k hk)) (fun k hk => funext (b k hk)) (fun c hc => f c (hsub c hc)) k4⟩
def k9_ss : List Nat := [155, 156, 157, 162]
theorem gs_T_e (e : eq9 k9_ss [14015] h h') (k : gs_T h T) : gs_T h' T := by
  obtain ⟨a, b, f⟩ := e
  unfold gs_T at *
  rw [f 14015 (by decide)]
  refine ⟨k.1, fun i hi => ?_, fun i j hi hj q => ?_⟩
  · have := k.2.1 i hi
    rw [a 157 (by decide), a 155 (by decide), a 156 (by decide), b 162 (by decide)]
    exact this
  · rw [a 157 (by decide), a 157 (by decide)] at q
    exact k.2.2 i j hi hj q
def k9_g : List Nat := [95, 96, 97]
theorem gc_S_e (e : eq9 k9_g [12032] h h') (k : gc_S h T) : gc_S h' T := by
  obtain ⟨a, -, f⟩ := e
  unfold gc_S gc_R at *
  rw [f 12032 (by decide)]
  refine ⟨⟨k.1.1, fun i hi => ?_⟩, k.2.1, fun i hi => ?_⟩
  · have := k.1.2 i hi
    rw [a 95 (by decide), a 96 (by decide)]
    exact this
  · rw [a 97 (by decide)]
    exact k.2.2 i hi
theorem tr_R_g {g g' : wk_g} {V : Int → Int} (hg : wk_gc g g') (k : tr_R g V T) : tr_R g' V T := by
  unfold tr_R at *
  have e0 : tr_0 g' = tr_0 g := by
    unfold tr_0
    rw [hg 114 (by decide)]
  rw [dm_st_g hg, e0]
  exact k
theorem tr_R_e (e : eq9 (162 :: wk_gk) [] h h') (k : tr_R (mi_a h) (yv h) T) : tr_R (mi_a h') (yv h') T := by
  have ey : yv h' = yv h := funext fun c => by
    unfold yv
    rw [e.2.1 162 List.mem_cons_self]
  rw [ey]
  exact tr_R_g (fun k hk i => e.1 k (List.mem_cons_of_mem _ hk) i) k
theorem eq9.sub {ks fs ks' fs' : List Nat} (e : eq9 ks fs h h') (k1 : ∀ k, k ∈ ks' → k ∈ ks) (f1 : ∀ c, c ∈ fs' → c ∈ fs) : eq9 ks' fs' h h' := ⟨fun k hk => e.1 k (k1 k hk), fun k hk => e.2.1 k (k1 k hk), fun c hc => e.2.2 c (f1 c hc)⟩
def k9_T : List Nat := [155, 156, 157, 162, 95, 96, 97, 114, 115, 119, 120, 122, 124, 125, 126, 128, 129, 130]
def f9_T : List Nat := [14015, 12032, 13959]
theorem r9_T_e (e : eq9 k9_T f9_T h h') (k : r9_T h T) : r9_T h' T := by
  obtain ⟨k1, k2, k3, k4⟩ := k
  refine ⟨gs_T_e (e.sub (by decide) (by decide)) k1, gc_S_e (e.sub (by decide) (by decide)) k2, k3, fun q => ?_⟩
  obtain ⟨k5, k6, k7⟩ := k4 q
  exact ⟨by rw [e.2.2 13959 (by decide)]; exact k5, tr_R_e (e.sub (by decide) (by decide)) k6, k7⟩
def k9_p : List Nat := [99, 100, 161, 164]
def f9_p : List Nat := [12544, 14017, 13959, 13961, 13962]
theorem r9_p_e (e : eq9 k9_p f9_p h h') (k : r9_p h) : r9_p h' := by
  obtain ⟨a, b, f⟩ := e
  unfold r9_p at *
  rw [f 12544 (by decide), f 14017 (by decide), f 13959 (by decide), f 13961 (by decide), f 13962 (by decide)]
  exact ⟨⟨k.1.1, fun i hi => by rw [a 99 (by decide), a 100 (by decide), a 161 (by decide), b 164 (by decide)]; exact k.1.2 i hi⟩, k.2⟩
end E9
theorem s9_t : (∀ k, k ∈ k9_t → k ∈ n9_ks) ∧ ∀ c, c ∈ f9_t → c ∈ n9_fs := by decide
theorem s9_i : (∀ k, k ∈ k9_i → k ∈ n9_ks) ∧ ∀ c, c ∈ f9_i → c ∈ n9_fs := by decide
theorem s9_o : (∀ k, k ∈ k9_o → k ∈ n9_ks) ∧ ∀ c, c ∈ f9_o → c ∈ n9_fs := by decide
theorem s9_c : (∀ k, k ∈ r9_kc → k ∈ n9_ks) ∧ ∀ c, c ∈ f9_c → c ∈ n9_fs := by decide
theorem s9_T : (∀ k, k ∈ k9_T → k ∈ n9_ks) ∧ ∀ c, c ∈ f9_T → c ∈ n9_fs := by decide
theorem s9_p : (∀ k, k ∈ k9_p → k ∈ n9_ks) ∧ ∀ c, c ∈ f9_p → c ∈ n9_fs := by decide
section W9
variable {wr : List (Nat × Nat)} {h h' : sm_H} {T : List (Int × Int × Int)}
theorem rl_t_q (q : rq wr h h') (hw : n9_all wr k9_t f9_t = true) (k : rl_t h) : rl_t h' := rl_t_e (eq9_rq q s9_t.1 s9_t.2 hw) k
theorem r9_i_q (q : rq wr h h') (hw : n9_all wr k9_i f9_i = true) (k : r9_i h) : r9_i h' := r9_i_e (eq9_rq q s9_i.1 s9_i.2 hw) k
theorem r9_o_q (q : rq wr h h') (hw : n9_all wr k9_o f9_o = true) (k : r9_o h) : r9_o h' := r9_o_e (eq9_rq q s9_o.1 s9_o.2 hw) k
theorem r9_c_q (q : rq wr h h') (hw : n9_all wr r9_kc f9_c = true) (k : r9_c h) : r9_c h' := r9_c_e (eq9_rq q s9_c.1 s9_c.2 hw) k
theorem r9_T_q (q : rq wr h h') (hw : n9_all wr k9_T f9_T = true) (k : r9_T h T) : r9_T h' T := r9_T_e (eq9_rq q s9_T.1 s9_T.2 hw) k
theorem r9_p_q (q : rq wr h h') (hw : n9_all wr k9_p f9_p = true) (k : r9_p h) : r9_p h' := r9_p_e (eq9_rq q s9_p.1 s9_p.2 hw) k
def n9_no (wr : List (Nat × Nat)) : Bool := n9_all wr k9_t f9_t && (n9_all wr k9_i f9_i && (n9_all wr k9_o f9_o && (n9_all wr r9_kc f9_c && (n9_all wr k9_T f9_T && n9_all wr k9_p f9_p))))
theorem R9_q (q : rq wr h h') (hw : n9_no wr = true) (k : R9 h) : R9 h' := by
  unfold n9_no at hw
  simp only [Bool.and_eq_true] at hw
  obtain ⟨w1, w2, w3, w4, w5, w6⟩ := hw
  obtain ⟨k1, k2, k3, k4, ⟨T, k5⟩, k6⟩ := k
  exact ⟨rl_t_q q w1 k1, r9_i_q q w2 k2, r9_o_q q w3 k3, r9_c_q q w4 k4, ⟨T, r9_T_q q w5 k5⟩, r9_p_q q w6 k6⟩
end W9
/-- what holds between the law's calls -/
def M9 (h : sm_H) : Prop := MJ h ∧ ab_Sh sx_sk h ∧ R9 h
section LJ9
variable {L : Nat} {xs : Nat → Int32} {wr : List (Nat × Nat)} {h g : sm_H}
theorem l9_fr (hJ : lj_J M9 L xs h) (hS' : ab_Sh sx_sk g) (hw : (ab_sub_wr wr mj_wr && n9_no wr) = true) (hF : ab_Fr wr h g) : lj_J M9 L xs g := by
  rw [Bool.and_eq_true] at hw
  obtain ⟨j1, j2, j3⟩ := lj_fr (MJ := MJ) mj_MJ ⟨hJ.1.1, hJ.2⟩ hw.1 hF
  exact ⟨⟨j1, hS', R9_q (rq_fr hJ.1.2.1 hF) hw.2 hJ.1.2.2⟩, j2, j3⟩
theorem l9_app {e : sm_E} (hJ : lj_J M9 L xs h) : lj_J M9 L xs (h ++ [e]) := by
  obtain ⟨⟨j1, j2, j3⟩, j4, j5⟩ := hJ
  have hl := xs_len
  refine ⟨⟨mj_MJ.2 h e j4 j1, lj_app (by omega) j2, R9_q (rq_app j4) (by decide) j3⟩, by rw [List.length_append]; omega, ?_⟩
  rw [List.getElem?_append_left (by omega)]
  exact j5
theorem l9_P {c : ab_C} (hok : ab_Ok sc_P sx_sk c) (hpre : c.2.2.1 = []) (hw : (ab_sub_wr c.2.2.2.2.1 mj_wr && n9_no c.2.2.2.2.1) = true) : lb_OkP sc_P sx_sk (lj_J M9 L xs) c := by
  intro h as M hM hSh hJ has
  refine (hok h as M hM hSh has (by rw [hpre]; exact fun e he => absurd he List.not_mem_nil)).imp fun v h' hp => ?_
  obtain ⟨p1, p2, p, pm, pr, -⟩ := hp
  exact ⟨p1, l9_fr hJ p1 hw p2, p2.1, p2.2.1, p, pm, pr⟩
theorem l9_W {env : List (List Nat × ab_C)} {m d fuel : Nat} {args posts : List ab_V} (henv : ∀ e ∈ env, ab_OkX sc_P sx_sk e.1 e.2) (hg : wb_good sc_P sc_PW sx_sk wr env m d fuel args posts = true) (hw : (ab_sub_wr wr mj_wr && n9_no wr) = true) : lb_OkW sc_P sc_PW sx_sk (lj_J M9 L xs) (m, args, posts, d) := by
  intro h as M hM hSh hJ has
  obtain ⟨g1, n, v, h', hr, g, e1, e2, e3, p, pm, pr⟩ := wb_good_ok hg henv hM hSh has
  refine ⟨g1, n, v, h', hr, ?_⟩
  have hJg := l9_fr hJ e1 hw e2
  have hgl := hJg.2.1
  have hl := xs_len
  rcases e3 with rfl | ⟨x, rfl⟩
  · exact ⟨e1, hJg, by rw [e2.1]; omega, by rw [e2.2.1]; omega, p, pm, pr⟩
  · refine ⟨lj_app (by omega) e1, l9_app hJg, by rw [List.length_append, e2.1]; exact Nat.le_refl _, ?_, p, pm, pr⟩
    rw [sm_sl_app, e2.2.1]
    exact Nat.le_refl _
end LJ9
