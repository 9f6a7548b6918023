/-! print of the class, exactly; texts taken over -/
section CTO
variable {d : Nat} {h : sm_H}
def to_OW : List (Nat × Nat) := [(7169, 7170), (7296, 7297)]
def to_IW : List (Nat × Nat) := [(6913, 6914), (7040, 7041)]
theorem me_toO (hS : ab_Sh sx_sk h) (hc : ∀ k : Nat, (k : Int) < mi_f h 7425 → tx_alc (mi_a h 59 k)) : me_E (d + 3) 89 0 [some (.inr (.inr 56)), some (.inr (.inr 58)), none] [] h (fun w h' => w = none ∧ ab_Sh sx_sk h' ∧ ab_Fr to_OW h h' ∧ mi_f h' 7169 = mi_f h 7425 ∧ ∀ k : Nat, (k : Int) < mi_f h 7425 → mi_a h' 57 k = mi_a h 59 k) := by
  have lp : ∀ (N : Nat) (zk : Int) (h1 : sm_H), mi_f h 7425 - zk ≤ N → 0 ≤ zk → zk ≤ mi_f h 7425 → ab_Sh sx_sk h1 → ab_Fr to_OW h h1 → mi_f h1 7169 = zk → (∀ k : Nat, (k : Int) < zk → mi_a h1 57 k = mi_a h 59 k) → me_E (d + 3) 89 6 [some (.inr (.inr 56)), some (.inr (.inr 58)), some (.inl zk)] [] h1 (fun w h' => w = none ∧ ab_Sh sx_sk h' ∧ ab_Fr to_OW h h' ∧ mi_f h' 7169 = mi_f h 7425 ∧ ∀ k : Nat, (k : Int) < mi_f h 7425 → mi_a h' 57 k = mi_a h 59 k) := by
    intro N
    induction N with
    | zero =>
      intro zk h1 hN k0 k1 hS1 hF e1 e2
      have b := me_fb (c := 7425) hS rfl
      have e25 : mi_f h1 7425 = mi_f h 7425 := me_f (c := 7425) hF hS rfl rfl
      refine mt_ktoOB hS1 ⟨by omega, by omega⟩ ?_ (by intros; exfalso; omega)
      intro b1 c1 h2 g1 g2
      have e := me_nil g2
      subst e
      exact ⟨rfl, g1, hF, by omega, fun k hk => e2 k (by omega)⟩
    | succ N ih =>
      intro zk h1 hN k0 k1 hS1 hF e1 e2
      have b := me_fb (c := 7425) hS rfl
      have e25 : mi_f h1 7425 = mi_f h 7425 := me_f (c := 7425) hF hS rfl rfl
      have ok : mi_in zk := ⟨by omega, by omega⟩
      refine mt_ktoOB hS1 ok ?_ ?_
      · intro b1 c1 h2 g1 g2
        have e := me_nil g2
        subst e
        exact ⟨rfl, g1, hF, by omega, fun k hk => e2 k (by omega)⟩
      · intro b1 c1 h2 g1 g2
        have e := me_nil g2
        subst e
        have a59 : mi_a h2 59 zk.toNat = mi_a h 59 zk.toNat := me_a (k := 59) hF hS rfl rfl
        have hal := hc zk.toNat (by omega)
        rw [← a59] at hal
        have hal2 := hal
        unfold tx_alc at hal2
        refine ⟨fun w h' => w = some (.inl (mi_a h2 59 zk.toNat)) ∧ h' = h2, mt_ktoOE hS1 ok (by intros; exfalso; omega) (by intros; exfalso; omega) (by intros; exfalso; omega) ?_, fun w h3 hw hq => ?_⟩
        · intro x1 x2 x3 x4
          exact ⟨⟨⟨by omega, by omega⟩, by omega, by omega⟩, fun h3 s1 s2 => ⟨rfl, me_nil s2⟩⟩
        obtain ⟨rfl, rfl⟩ := hq
        have oc : mi_in (mi_a h3 59 zk.toNat) := ⟨by omega, by omega⟩
        refine mt_ktoOC hS1 ok oc ?_
        intro h4 r1 r2
        have e := me_nil r2
        subst e
        refine ⟨_, (me_app56 (d := d + 2) hS1 hal), fun w h5 hw hq => ?_⟩
        obtain ⟨q1, ⟨rfl, q2, q3, q4, q5⟩ | ⟨-, q2, -⟩⟩ := hq
        · refine mt_ktoOD q1 ok ⟨by decide, by decide⟩ ?_
          refine ⟨⟨by omega, by omega⟩, fun h6 t1 t2 => ?_⟩
          have e := me_nil t2
          subst e
          refine ih (zk + 1) h6 (by omega) (by omega) (by omega) q1 (hF.trans (q5.wide (fun c hc => ab_swr_ok (by decide) hc))) (by omega) (fun k hk => ?_)
          rw [q4, e1]
          by_cases ek : k = zk.toNat
          · rw [if_pos ek, ek, a59]
          · rw [if_neg ek]
            exact e2 k (by omega)
        · exfalso; omega
  have b := me_fb (c := 7425) hS rfl
  refine mt_ktoOA hS ?_
  intro h1 g1 g2 g3
  exact lp (mi_f h 7425).toNat 0 h1 (by omega) (by decide) (by omega) g1 (g3.wide (fun c hc => ab_swr_ok (by decide) hc)) g2 (fun k hk => by omega)
theorem me_toI (hS : ab_Sh sx_sk h) (hc : ∀ k : Nat, (k : Int) < mi_f h 7169 → tx_alc (mi_a h 57 k)) : me_E (d + 3) 89 0 [some (.inr (.inr 54)), some (.inr (.inr 56)), none] [] h (fun w h' => w = none ∧ ab_Sh sx_sk h' ∧ ab_Fr to_IW h h' ∧ mi_f h' 6913 = mi_f h 7169 ∧ ∀ k : Nat, (k : Int) < mi_f h 7169 → mi_a h' 55 k = mi_a h 57 k) := by
  have lp : ∀ (N : Nat) (zk : Int) (h1 : sm_H), mi_f h 7169 - zk ≤ N → 0 ≤ zk → zk ≤ mi_f h 7169 → ab_Sh sx_sk h1 → ab_Fr to_IW h h1 → mi_f h1 6913 = zk → (∀ k : Nat, (k : Int) < zk → mi_a h1 55 k = mi_a h 57 k) → me_E (d + 3) 89 6 [some (.inr (.inr 54)), some (.inr (.inr 56)), some (.inl zk)] [] h1 (fun w h' => w = none ∧ ab_Sh sx_sk h' ∧ ab_Fr to_IW h h' ∧ mi_f h' 6913 = mi_f h 7169 ∧ ∀ k : Nat, (k : Int) < mi_f h 7169 → mi_a h' 55 k = mi_a h 57 k) := by
    intro N
    induction N with
    | zero =>
      intro zk h1 hN k0 k1 hS1 hF e1 e2
      have b := me_fb (c := 7169) hS rfl
      have e25 : mi_f h1 7169 = mi_f h 7169 := me_f (c := 7169) hF hS rfl rfl
      refine mt_ktoIB hS1 ⟨by omega, by omega⟩ ?_ (by intros; exfalso; omega)
      intro b1 c1 h2 g1 g2
      have e := me_nil g2
      subst e
      exact ⟨rfl, g1, hF, by omega, fun k hk => e2 k (by omega)⟩
    | succ N ih =>
      intro zk h1 hN k0 k1 hS1 hF e1 e2
      have b := me_fb (c := 7169) hS rfl
      have e25 : mi_f h1 7169 = mi_f h 7169 := me_f (c := 7169) hF hS rfl rfl
      have ok : mi_in zk := ⟨by omega, by omega⟩
      refine mt_ktoIB hS1 ok ?_ ?_
      · intro b1 c1 h2 g1 g2
        have e := me_nil g2
        subst e
        exact ⟨rfl, g1, hF, by omega, fun k hk => e2 k (by omega)⟩
      · intro b1 c1 h2 g1 g2
        have e := me_nil g2
        subst e
        have a59 : mi_a h2 57 zk.toNat = mi_a h 57 zk.toNat := me_a (k := 57) hF hS rfl rfl
        have hal := hc zk.toNat (by omega)
        rw [← a59] at hal
        have hal2 := hal
        unfold tx_alc at hal2
        refine ⟨fun w h' => w = some (.inl (mi_a h2 57 zk.toNat)) ∧ h' = h2, mt_ktoIE hS1 ok (by intros; exfalso; omega) (by intros; exfalso; omega) (by intros; exfalso; omega) ?_, fun w h3 hw hq => ?_⟩
        · intro x1 x2 x3 x4
          exact ⟨⟨⟨by omega, by omega⟩, by omega, by omega⟩, fun h3 s1 s2 => ⟨rfl, me_nil s2⟩⟩
        obtain ⟨rfl, rfl⟩ := hq
        have oc : mi_in (mi_a h3 57 zk.toNat) := ⟨by omega, by omega⟩
        refine mt_ktoIC hS1 ok oc ?_
        intro h4 r1 r2
        have e := me_nil r2
        subst e
        refine ⟨_, (me_app54 (d := d + 2) hS1 hal), fun w h5 hw hq => ?_⟩
        obtain ⟨q1, ⟨rfl, q2, q3, q4, q5⟩ | ⟨-, q2, -⟩⟩ := hq
        · refine mt_ktoID q1 ok ⟨by decide, by decide⟩ ?_
          refine ⟨⟨by omega, by omega⟩, fun h6 t1 t2 => ?_⟩
          have e := me_nil t2
          subst e
          refine ih (zk + 1) h6 (by omega) (by omega) (by omega) q1 (hF.trans (q5.wide (fun c hc => ab_swr_ok (by decide) hc))) (by omega) (fun k hk => ?_)
          rw [q4, e1]
          by_cases ek : k = zk.toNat
          · rw [if_pos ek, ek, a59]
          · rw [if_neg ek]
            exact e2 k (by omega)
        · exfalso; omega
  have b := me_fb (c := 7169) hS rfl
  refine mt_ktoIA hS ?_
  intro h1 g1 g2 g3
  exact lp (mi_f h 7169).toNat 0 h1 (by omega) (by decide) (by omega) g1 (g3.wide (fun c hc => ab_swr_ok (by decide) hc)) g2 (fun k hk => by omega)
/-- carry -/
theorem me_carryc (hS : ab_Sh sx_sk h) (hc : ∀ k : Nat, (k : Int) < mi_f h 7169 → tx_alc (mi_a h 57 k)) : me_E (d + 4) 88 0 [some (.inr (.inr 51))] [] h (fun w h' => w = some (.inl (mi_f h 7169)) ∧ ab_Sh sx_sk h' ∧ ab_Fr to_IW h h' ∧ mi_f h' 6913 = mi_f h 7169 ∧ ∀ k : Nat, (k : Int) < mi_f h 7169 → mi_a h' 55 k = mi_a h 57 k) := by
  refine mt_kcaA hS ?_
  intro h1 g1 g2
  have e := me_nil g2
  subst e
  refine ⟨_, me_toI (d := d) g1 hc, fun w h2 hw hq => ?_⟩
  obtain ⟨rfl, q1, q2, q3, q4⟩ := hq
  refine mt_kcaB q1 ?_
  intro h3 r1 r2
  have e := me_nil r2
  subst e
  exact ⟨by rw [q3], q1, q2, q3, q4⟩
end CTO
def wr_pv : List (Nat × Nat) := [(7425, 7426), (7552, 7553), (13827, 13830), (13831, 13837)]
def wr_pz : List (Nat × Nat) := (7169, 7170) :: (7296, 7297) :: wr_pv
/-- what is asked of the tree that is printed -/
def pz_H (Lr : Nat → Int) (g : wk_g) (V : Int → Int) (h : sm_H) (L : List (Int × Int)) : Prop := ∃ f it Y kw n s', vpp_H f it g Y kw Lr h ∧ wk_Lrule Y (g 114 0) ∧ f (g 114 0) = 0 ∧ pe_to (dm_st g V 0) (dv g V) n (tr_0 g) ([], s') L ∧ n < 40000 ∧ rh h 0 (gm_T s') ∧ mi_f h 12032 = ((gm_T s').length : Int) ∧ ∀ x ∈ gm_T s', (x.1 % 10 = 5 → x.2.1 ≤ 161) ∧ (x.1 % 10 = 2 → 0 ≤ x.2.1 ∧ x.2.1 ≤ 9999) ∧ (x.1 % 10 = 3 → 0 < x.2.1 ∧ lgd 6 x.2.1)
section CPX
variable {Lr : Nat → Int} {g : wk_g} {V : Int → Int} {h : sm_H} {L : List (Int × Int)}
theorem me_wwalk (hS : ab_Sh sx_sk h) (hP : pz_H Lr g V h L) : me_E 249 103 0 [some (.inr (.inr 108))] [] h (fun w h' => w = none ∧ ab_Sh sx_sk h' ∧ ab_Fr wr_pv h h' ∧ oC h' (ofd Lr g L (some ([], 0, 0, 0))) ∧ oal (ofd Lr g L (some ([], 0, 0, 0)))) := by
  obtain ⟨f, it, Y, kw, n, s', hH, hr, rf, hrun, hn, hR, hN, hT⟩ := hP
  have e0 : wk_ul [(2, 1, 0)] = 1 := by rw [wk_ul_o, ul_nil]; rfl
  have hrun0 : rn g V n 0 ([(1, g 114 0, 0)] ++ [(2, 1, 0)]) (0, 0, [(1, 0, 0)], 1, []) s' L := hrun
  obtain ⟨m, s2, m1, m2, m3⟩ := rn_in hrun0
  rw [Int.zero_add] at m2
  obtain ⟨t, ht⟩ : ∃ t : gm_S, t = (0, 0, [(1, 0, 0)], 0, []) := ⟨_, rfl⟩
  have edt : ((0, 0, [(1, 0, 0)], 1, []) : gm_S) = gm_d t := by
    rw [ht]
    unfold gm_d
    rw [gm_X_mk, gm_F_mk, gm_T_mk, gm_D_mk, gm_P_mk]
    rfl
  rw [edt] at m2
  obtain ⟨-, -, B, b3, b4, -⟩ := vpp_tF (V := V) hH (m + 1) m (by omega) _ _ _ _ _ hr.1 hr.2.1 m2
  have eD : gm_D (gm_d t) = 0 + 1 := by rw [← edt, gm_D_mk]; rfl
  have eT : gm_T (gm_d t) = [(1, 0, 0)] := by rw [← edt, gm_T_mk]
  rw [eD] at b4
  have eTs : gm_T s' = (1, 0, 0) :: B := by rw [m3, cl_T, b3, eT]; rfl
  have hR' := hR
  have hT' := hT
  rw [eTs] at hR hN
  obtain ⟨-, -, r3⟩ := rh_cons b4 hR
  rw [List.length_cons] at hN
  have n100 := hH.2.2
  have hev := ev_all (V := V) hH.1.1 hH.2.1.2 (vpp_rep hH) (m + 1) m (by omega) _ _ _ _ _ hr.1 hr.2.1 m2
  have hevs : evq Y g s' L := evq_sub hev (by rw [m3]; exact cl_sub)
  have hv : ∀ e ∈ L, vpp_e g e := fun e he => by
    obtain ⟨-, v1, v2⟩ := hevs e he
    refine ⟨fun q => ?_, fun q => ?_⟩
    · obtain ⟨x, x1, x2, x3⟩ := v1 q
      rw [← x3]
      exact (hT x x1).2.1 x2
    · obtain ⟨x, x1, x2, x3⟩ := v2 q
      rw [← x3]
      exact (hT x x1).2.2 x2
  have hlit : ∀ e ∈ L, g 119 e.1.toNat = 8 → lit_ok (Lr (g 120 e.1.toNat).toNat) := fun e he q => ((hH.2.1.1 e.1 (hevs e he).1.1 (hevs e he).1.2).2 q).2.2.2
  have hlen := pe_len _ _ _ hrun
  have hal : oal (ofd Lr g L (some ([], 0, 0, 0))) := ofd_al L _ hv hlit (fun o ho c hc => by
    injection ho with ho
    rw [← ho] at hc
    exact absurd hc List.not_mem_nil)
  refine mt_krhA (d := 240) hS ?_
  intro h1 g1 k1 k2 k3 k4 k5 k6 k7 k8 k9 k10 kF
  have hi1 : vpp_in h1 0 0 ([], 0, 0, 0) := ⟨g1, Or.inr ⟨_, rfl, k2, k10, k1, fun k hk => absurd hk (Nat.not_lt_zero _), k8, k7, k6⟩, fun o ho hn => by
    injection ho with ho
    rw [← ho] at hn
    exact absurd rfl hn, k4, k5, by omega⟩
  have hH1 : vpp_H f it g Y kw Lr h1 := vpp_H_fr hH kF hS rfl rfl rfl
  have n1 : mi_f h1 12032 = mi_f h 12032 := me_f (c := 12032) kF hS rfl rfl
  have key := me_wuse (d := 240) (u := 0) (i := 0) (zd := 0) (q := 0) (t := t) (s2 := s2) (L := L) (B := B) (V := V) (vpp_F_all 60 (by decide)) hi1 hH1 (by decide) (by decide) hr.1 hr.2.1 rf (by decide) (by decide) (by decide) (by decide) (by decide) m2 ⟨b3, rh_fr r3 kF hS rfl, by omega, hv, by omega, fun x hx => (hT x (by rw [eTs]; exact List.mem_cons_of_mem _ hx)).1⟩
  refine ⟨_, key, fun w h2 hw hq => ?_⟩
  obtain ⟨rfl, q1, q2, q3, q4, -⟩ := hq
  have F2 : ab_Fr wr_pv h h2 := (kF.wide (fun c hc => ab_swr_ok (by decide) hc)).trans (q2.wide (fun c hc => ab_swr_ok (by decide) hc))
  refine mt_krhB (d := 240) q1 ?_ ?_
  · intro b c h3 r1 r2
    have e := me_nil r2
    subst e
    exact ⟨rfl, q1, F2, q4, hal⟩
  · intro b c h3 r1 r2
    have e := me_nil r2
    subst e
    exact ⟨rfl, q1, F2, q4, hal⟩
def pz_T (h : sm_H) (R : Option ox) (x : Nat) (h' : sm_H) : Prop := ∃ h1, h' = h1 ++ [sm_exc x] ∧ ab_Sh sx_sk h1 ∧ ab_Fr wr_pv h h1 ∧ ((x = 14 ∧ mi_f h 12032 = 0) ∨ (x = 15 ∧ mi_f h 12032 ≠ 0 ∧ R = none))
def pz_Q (h : sm_H) (R : Option ox) (w : Option mi_V) (h' : sm_H) : Prop := ab_Sh sx_sk h' ∧ mi_f h 12032 ≠ 0 ∧ ∃ o, R = some o ∧ w = some (.inl (o.1.length : Int)) ∧ ab_Fr wr_pz h h' ∧ mi_f h' 7169 = (o.1.length : Int) ∧ (∀ k : Nat, k < o.1.length → o.1[k]? = some (mi_a h' 57 k)) ∧ ∀ c ∈ o.1, tx_alc c
theorem me_printc {R : Option ox} (hS : ab_Sh sx_sk h) (hP : mi_f h 12032 ≠ 0 → pz_H Lr g V h L ∧ R = ofd Lr g L (some ([], 0, 0, 0))) : mg_E (pz_T h R) 250 164 0 [some (.inr (.inr 51))] [] h (pz_Q h R) := by
  refine mt_kqoA (d := 249) hS ?_ ?_
  · intro b c h1 g1 g2
    have e := me_nil g2
    subst e
    obtain ⟨hP1, hR⟩ := hP c
    refine ⟨_, me_wwalk g1 hP1, fun w h2 hw hq => ?_⟩
    obtain ⟨rfl, q1, q2, q3, q4⟩ := hq
    rw [← hR] at q3 q4
    refine mt_kqoB (d := 249) q1 ?_ ?_
    · intro b1 c1 h3 r1 r2
      have e := me_nil r2
      subst e
      rcases q3 with ⟨-, -, x, -⟩ | ⟨o, ho, -, -, o1, o2, -⟩
      · exfalso; omega
      have hal := q4 o ho
      refine ⟨_, me_toO (d := 246) q1 (fun k hk => ?_), fun w h4 hw4 hq4 => ?_⟩
      · have := o2 k (by omega)
        exact hal _ (List.mem_of_getElem? this)
      obtain ⟨rfl, v1, v2, v3, v4⟩ := hq4
      refine mt_kqoC (d := 249) v1 ?_
      intro h5 t1 t2
      have e := me_nil t2
      subst e
      refine ⟨v1, c, o, ho, by rw [v3, o1], (q2.wide (fun c hc => ab_swr_ok (by decide) hc)).trans (v2.wide (fun c hc => ab_swr_ok (by decide) hc)), by rw [v3, o1], fun k hk => ?_, hal⟩
      rw [v4 k (by omega)]
      exact o2 k hk
    · intro b1 c1 h3 r1 r2
      have e := me_nil r2
      subst e
      rcases q3 with ⟨x, -⟩ | ⟨o, -, -, x, -⟩
      · exact mg_thr (M := (1, 1, sb_164)) (x := 15) rfl rfl rfl ⟨h3, rfl, q1, q2, Or.inr ⟨rfl, c, x⟩⟩
      · exact absurd x c1
  · intro b c h1 g1 g2
    have e := me_nil g2
    subst e
    exact mg_thr (M := (1, 1, sb_164)) (x := 14) rfl rfl rfl ⟨h1, rfl, g1, ab_Fr.refl, Or.inl ⟨rfl, c⟩⟩
end CPX
