/-! the reference's walk that prints, exactly -/
section ZP
variable {d : Nat} {h0 : sm_H} {Y : wk_Y} {zh : Int}
/-- what is asked: the tree that is replayed, its values, the literals -/
def zp_G (Y : wk_Y) (h0 : sm_H) (N : Nat) (sN : gm_S) (LN : List (Int × Int)) : Prop := pe_to (dm_st (mi_a h0) (yv h0) 0) (dv (mi_a h0) (yv h0)) N (tr_0 (mi_a h0)) ([], sN) LN ∧ N < 40000 ∧ vo (yv h0) sN ∧ (∀ x ∈ gm_T sN, (x.1 % 10 = 2 → 0 ≤ x.2.1 ∧ x.2.1 ≤ 9999) ∧ (x.1 % 10 = 3 → 0 < x.2.1 ∧ x.2.1 < 1073741824)) ∧ (∀ u, 0 ≤ u → u < wk_u Y → px_W h0 u) ∧ (∀ u, 0 ≤ u → u < wk_u Y → mi_a h0 119 u.toNat = 8 → 0 ≤ (mx_b h0 118 (mi_a h0 120 u.toNat).toNat).toInt ∧ (mx_b h0 118 (mi_a h0 120 u.toNat).toNat).toInt < 1073741824 ∧ 0 ≤ mi_a h0 117 (mi_a h0 120 u.toNat).toNat)
def zp_f (h0 : sm_H) (L : List (Int × Int)) (x : Option ox) : Option ox := ofd (tq_L h0) (mi_a h0) L x
def zp_I (Y : wk_Y) (h0 : sm_H) (N : Nat) (sN : gm_S) (R : Option ox) (zt : Int) (h : sm_H) : Prop := wl_I Y h0 2 (tp_I h0) zt h ∧ ∃ (s : gm_S) (M : List (Int × Int)) (o : ox) (k : Nat), pe_to (dm_st (mi_a h0) (yv h0) 0) (dv (mi_a h0) (yv h0)) k (wk_stk h, s) ([], sN) M ∧ zt + k = N ∧ gm_len s = mi_f h 14033 ∧ R = zp_f h0 M (some o) ∧ oR h (some o) ∧ 0 ≤ mi_f h 14036 ∧ mi_f h 14036 ≤ zt + 1
def zp_H (Y : wk_Y) (h0 : sm_H) (N : Nat) (sN : gm_S) (R : Option ox) (zt : Int) (h : sm_H) : Prop := (ab_Sh sx_sk h ∧ ab_Fr wr_WK h0 h ∧ mi_f h 14044 = 1 ∧ R = none) ∨ zp_I Y h0 N sN R zt h
def zp_End (h0 : sm_H) (R : Option ox) (w : Option mi_V) (h' : sm_H) : Prop := w = none ∧ ab_Sh sx_sk h' ∧ ab_Fr wr_WK h0 h' ∧ oR h' R
variable {N : Nat} {sN : gm_S} {R : Option ox} {LN : List (Int × Int)}
theorem zp_247 {zt : Int} {q3 q4 : Option mi_V} {h : sm_H} (oh : mi_in zh) (ot : mi_in zt) (o3 : ∀ v, q3 = some v → mi_ok v) (o4 : ∀ v, q4 = some v → mi_ok v) (hN : N < 40000) (hH : zp_H Y h0 N sN R zt h) (he : zp_I Y h0 N sN R zt h → mi_f h 14029 ≤ 0 ∨ zt = 40000) : me_E (d + 7) 206 247 [some (.inr (.inr 109)), some (.inl zh), some (.inl zt), q3, q4] [] h (zp_End h0 R) := by
  have hS : ab_Sh sx_sk h := by
    rcases hH with hH | hH
    · exact hH.1
    · exact hH.1.1.1
  have fin : zp_End h0 R none h := by
    rcases hH with ⟨k1, k2, k3, k4⟩ | hI
    · exact ⟨rfl, k1, k2, Or.inl ⟨k4, k3⟩⟩
    · refine ⟨rfl, hS, hI.1.2.1, ?_⟩
      have e := he hI
      obtain ⟨hw, s, M, o, k, m1, m2, m3, m4, m5, -⟩ := hI
      rcases e with e | e
      · have := hw.1.2.2.2.2.2.2.1
        have e0 : mi_f h 14029 = 0 := by omega
        have est : wk_stk h = [] := by
          unfold wk_stk
          rw [e0]
          rfl
        rw [est] at m1
        obtain ⟨x1, x2, x3⟩ := pe_u 0 k _ [] M (show pe_to (dm_st (mi_a h0) (yv h0) 0) (dv (mi_a h0) (yv h0)) 0 (([], s) : gm_C) ([], s) [] from ⟨rfl, rfl⟩) m1
        rw [m4, ← x3]
        exact m5
      · exfalso; omega
  refine mt_waE hS oh ot o3 o4 ?_ ?_ ?_ ?_ ?_
  · intro b c h3 r1 r2
    have e3 := me_nil r2
    subst e3
    exact fin
  · intro b1 b2 c1 c2 h3 r1 r2
    have e3 := me_nil r2
    subst e3
    exact fin
  · intro b1 b2 b3 c1 c2 c3 h3 r1 r2
    have e3 := me_nil r2
    subst e3
    exact fin
  · intro b1 b2 b3 b4 c1 c2 c3 c4
    exfalso
    rcases hH with hH | hI
    · have := hH.2.2.1
      omega
    · have := hI.1.1.2.1
      omega
  · intro b1 b2 b3 b4 c1 c2 c3 c4
    exfalso
    rcases hH with hH | hI
    · have := hH.2.2.1
      omega
    · have := hI.1.1.2.1
      omega
/-- what is there before a turn, and what is to be shown of it -/
theorem zp_turn {zt : Int} {h : sm_H} {e : wk_E} {r : List wk_E} (hS0 : ab_Sh sx_sk h0) (hG : zp_G Y h0 N sN LN) (hI : zp_I Y h0 N sN R zt h) (z0 : 0 ≤ zt) (hst : wk_stk h = e :: r) : ∃ (s : gm_S) (o : ox) (c1 : gm_C), oR h (some o) ∧ gm_len s = mi_f h 14033 ∧ dm_st (mi_a h0) (yv h0) 0 e r s = some c1 ∧ (∀ x ∈ gm_T c1.2, x ∈ gm_T sN) ∧ 0 ≤ mi_f h 14036 ∧ mi_f h 14036 ≤ zt + 1 ∧ ∀ h', wl_H Y h0 2 (tp_I h0) (zt + 1) h' → oR h' (zp_f h0 (dv (mi_a h0) (yv h0) e s) (some o)) → 0 ≤ mi_f h' 14036 → mi_f h' 14036 ≤ mi_f h 14036 + 1 → zp_H Y h0 N sN R (zt + 1) h' := by
  obtain ⟨hw, s, M, o, k, m1, m2, m3, m4, m5, m6, m7⟩ := hI
  rw [hst] at m1
  cases k with
  | zero =>
    obtain ⟨x, -⟩ := m1
    cases x
  | succ k =>
    obtain ⟨c1, M1, n1, n2, n3⟩ := pe_cons m1
    refine ⟨s, o, c1, m5, m3, n1, fun x hx => ?_, m6, m7, fun h' hH hR b0 b1 => ?_⟩
    · exact (dw_to (V' := yv h0) (fun y hy _ _ => hG.2.2.1 y hy) k c1 (pe_pw _ _ _ n2)).2 x hx
    · have e4 : R = zp_f h0 M1 (zp_f h0 (dv (mi_a h0) (yv h0) e s) (some o)) := by
        rw [m4, n3]
        exact ofd_app _ _ _
      generalize zp_f h0 (dv (mi_a h0) (yv h0) e s) (some o) = y at hR e4
      cases y with
      | none =>
        have x1 := oR_no hR
        have e5 : R = none := e4.trans (ofd_none M1)
        rcases hH with hH | hH
        · exact Or.inl ⟨hH.1, hH.2.1, x1, e5⟩
        · exact Or.inl ⟨hH.1.1, hH.2.1, x1, e5⟩
      | some o' =>
        have x1 := (oR_len hR).1
        rcases hH with hH | hH
        · exfalso
          rcases hH.2.2 with q | q
          · omega
          · exact absurd q.1 (by decide)
        · have t0 : tp_I h0 zt h := hw.2.2.2.1
          have t1 : tp_I h0 (zt + 1) h' := hH.2.2.2.1
          unfold tp_I at t0 t1
          rw [wk_tr_S z0 t0, hst] at t1
          have w0 := hw.1.2.2.2.2.2.2.2.2.2.2
          have w0' := hH.1.2.2.2.2.2.2.2.2.2.2
          have ew : wk_n 2 h = mi_f h 14033 := rfl
          have ew' : wk_n 2 h' = mi_f h' 14033 := rfl
          obtain ⟨p1, p2⟩ := dm_pf (V := yv h0) (c := (wk_n 2 h).toNat) (by omega) (by
            show (mx_b h0 162 (wk_n 2 h).toNat).toInt = (mx_b h0 162 (gm_len s).toNat).toInt
            rw [m3, ew]) (show dm_st (mi_a h0) (yv h0) 0 e r s = some (c1.1, c1.2) from n1) t1
          refine Or.inr ⟨hH, c1.2, M1, o', k, ?_, by omega, by omega, e4, hR, b0, by omega⟩
          rw [← p1]
          exact n2
/-- what is known of a leaf that was taken -/
theorem zp_leaf {u : Int} {r r1 : List wk_E} {s s1 : gm_S} (hG : zp_G Y h0 N sN LN) (h : dm_sg 0 (mi_a h0) (yv h0) u r s = some (r1, s1)) (hm : ∀ x ∈ gm_T s1, x ∈ gm_T sN) (u0 : 0 ≤ u) (u1 : u < wk_u Y) : yl h0 u (gm_len s) := by
  obtain ⟨-, -, -, g4, g5, g6⟩ := hG
  unfold dm_sg at h
  refine ⟨fun q => ?_, fun q => ?_, g6 u u0 u1, fun q => ?_⟩
  · rw [if_neg (by omega), if_neg (by omega)] at h
    obtain ⟨t, k1, k2⟩ := Option.map_eq_some_iff.mp h
    injection k2 with k3 k4
    subst k4
    unfold dm_lf at k1
    rw [if_pos q] at k1
    obtain ⟨A, a1, a2, a3, dd, a4⟩ := pv_c (by decide) k1
    have := (g4 _ (hm _ (by rw [a1, a4]; exact List.mem_append_right _ List.mem_cons_self))).1
    dsimp only at this
    have := this (by omega)
    obtain ⟨w0, w1⟩ := g5 u u0 u1 q
    exact ⟨this.1, this.2, w0, w1⟩
  · rw [if_neg (by omega), if_neg (by omega)] at h
    obtain ⟨t, k1, k2⟩ := Option.map_eq_some_iff.mp h
    injection k2 with k3 k4
    subst k4
    unfold dm_lf at k1
    rw [if_neg (by omega), if_pos q] at k1
    obtain ⟨A, a1, a2, a3, dd, a4⟩ := pv_c (by decide) k1
    have := (g4 _ (hm _ (by rw [a1, a4]; exact List.mem_append_right _ List.mem_cons_self))).2
    dsimp only at this
    exact this (by omega)
  · rw [if_neg (by omega), if_neg (by omega)] at h
    obtain ⟨t, k1, k2⟩ := Option.map_eq_some_iff.mp h
    unfold dm_lf at k1
    have gl : gm_len s = ((gm_T s).length : Int) := rfl
    rcases q with q | q
    · rw [if_pos q] at k1
      have := (gm_c_len k1).1
      omega
    · rw [if_neg (by omega), if_pos q] at k1
      have := (gm_c_len k1).1
      omega
theorem zp_ye {u c : Int} {o : ox} : zp_f h0 (dv_lf (mi_a h0) (yv h0) u c) (some o) = ye h0 u c o := by
  unfold zp_f dv_lf ye
  by_cases q : mi_a h0 119 u.toNat = 9 ∨ mi_a h0 119 u.toNat = 10
  · rw [if_pos q, if_pos q]
    rfl
  · rw [if_neg q, if_neg q]
    rfl
theorem zp_yo {zt : Int} {h h1 : sm_H} {o : ox} (hI : wl_I Y h0 2 (tp_I h0) zt h) (ht : 0 < mi_f h 14029) (g1 : ab_Sh sx_sk h1) (g2 : mi_f h1 14029 = mi_f h 14029 - 1) (g3 : ab_Fr [(14029, 14030)] h h1) (hR : oR h (some o)) (b0 : 0 ≤ mi_f h 14036) (b1 : mi_f h 14036 ≤ 40000) (n100 : mi_f h 14033 ≤ 100) : yo h1 o := by
  have hS := hI.1.1
  have w0 := hI.1.2.2.2.2.2.2.2.2.2.2
  have ew : wk_n 2 h = mi_f h 14033 := rfl
  have f36 : mi_f h1 14036 = mi_f h 14036 := me_f (c := 14036) g3 hS rfl rfl
  have f32 : mi_f h1 14032 = mi_f h 14032 := me_f (c := 14032) g3 hS rfl rfl
  have f33 : mi_f h1 14033 = mi_f h 14033 := me_f (c := 14033) g3 hS rfl rfl
  have i7 := hI.1.2.2.2.2.2.2.2.1
  have i8 := hI.1.2.2.2.2.2.2.2.2.1
  exact ⟨g1, (me_f (c := 14028) g3 hS rfl rfl).trans hI.1.2.1, oR_fr hR g3 hS rfl, by omega, by omega, by omega, by omega, by omega, by omega, by omega⟩
end ZP
