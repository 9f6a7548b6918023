/-! the parsing walk's turns are those of the replay -/
def pv_w (c : gm_C) : Prop := (∀ e ∈ c.1, 0 ≤ e.1 ∧ e.1 ≤ 5) ∧ (∀ e ∈ c.1, e.1 = 5 → ∃ v d, (gm_T c.2)[e.2.2.toNat]? = some (5 + 10 * e.2.2, v, d)) ∧ pm_lt c.1 ∧ ∀ x ∈ gm_T c.2, 0 ≤ x.1 ∧ x.1 / 10 < gm_len c.2
section VP2
variable {V : Int → Int} {g : wk_g} {E : pm_E} {s s1 : gm_S} {r r1 : List wk_E}
theorem pv_a (hw : pv_w (r, s)) {z : wk_E} (hz : z ∈ r) (z5 : z.1 = 5) : 0 ≤ z.2.2 ∧ z.2.2 < gm_len s ∧ z.2.2.toNat < (gm_T s).length ∧ ∃ v d, (gm_T s)[z.2.2.toNat]? = some (5 + 10 * z.2.2, v, d) ∧ (5 + 10 * z.2.2, v, d) ∈ gm_T s := by
  obtain ⟨v, d, h⟩ := hw.2.1 z hz z5
  have hm := List.mem_of_getElem? h
  obtain ⟨t1, t2⟩ := hw.2.2.2 _ hm
  dsimp only at t1 t2
  have : z.2.2.toNat < (gm_T s).length := by
    by_cases c : z.2.2.toNat < (gm_T s).length
    · exact c
    · have h : (gm_T s)[z.2.2.toNat]? = some (5 + 10 * z.2.2, v, d) := h
      rw [List.getElem?_eq_none (by omega)] at h
      cases h
  exact ⟨by omega, by omega, this, v, d, h, hm⟩
/-- what is appended, and what is put on the stack -/
theorem pv_ap {P : List wk_E} {A : List (Int × Int × Int)} (hw : pv_w (r, s)) (hP : ∀ z ∈ P, z.1 ≠ 5 ∧ 0 ≤ z.1 ∧ z.1 ≤ 5) (hT : gm_T s1 = gm_T s ++ A) (hA : ∀ x ∈ A, 0 ≤ x.1 ∧ gm_len s ≤ x.1 / 10 ∧ x.1 / 10 < gm_len s1) (hl : gm_len s ≤ gm_len s1) : pv_w (P ++ r, s1) ∧ ∀ z ∈ r, z.1 = 5 → vl (gm_T s1) z.2.2 = vl (gm_T s) z.2.2 := by
  have get : ∀ z ∈ r, z.1 = 5 → (gm_T s1)[z.2.2.toNat]? = (gm_T s)[z.2.2.toNat]? := fun z hz z5 => by
    rw [hT, List.getElem?_append_left (pv_a hw hz z5).2.2.1]
  refine ⟨⟨fun e he => ?_, fun e he e5 => ?_, pm_lt_app (fun z hz => (hP z hz).1) hw.2.2.1, fun x hx => ?_⟩, fun z hz z5 => ?_⟩
  · rcases List.mem_append.mp he with he | he
    · exact (hP e he).2
    · exact hw.1 e he
  · rcases List.mem_append.mp he with he | he
    · exact absurd e5 (hP e he).1
    · obtain ⟨v, d, h⟩ := hw.2.1 e he e5
      exact ⟨v, d, (get e he e5).trans h⟩
  · have hx : x ∈ gm_T s1 := hx
    rw [hT] at hx
    rcases List.mem_append.mp hx with hx | hx
    · have := hw.2.2.2 x hx
      dsimp only at this ⊢
      omega
    · have := hA x hx
      dsimp only
      omega
  · unfold vl
    rw [get z hz z5]
/-- .. backwards: of the values -/
theorem okp_ap {A T T1 : List (Int × Int × Int)} (hT : T1 = T ++ A) (hz : ∀ x ∈ T, (∀ z ∈ r, z.1 = 5 → z.2.2 ≠ x.1 / 10) → ∀ z ∈ r1, z.1 = 5 → z.2.2 ≠ x.1 / 10) (hk : okp V r1 T1) : okp V r T := fun x hx => by
  obtain ⟨k1, k2⟩ := hk x (by rw [hT]; exact List.mem_append_left _ hx)
  exact ⟨k1, fun q => k2 (hz x hx q)⟩
theorem okp_P {P : List wk_E} (hP : ∀ z ∈ P, z.1 ≠ 5) {i : Int} (h : ∀ z ∈ r, z.1 = 5 → z.2.2 ≠ i) : ∀ z ∈ P ++ r, z.1 = 5 → z.2.2 ≠ i := fun z hz z5 => by
  rcases List.mem_append.mp hz with hz | hz
  · exact absurd z5 (hP z hz)
  · exact h z hz z5
theorem okp_cons {e : wk_E} {T : List (Int × Int × Int)} (h5 : e.1 ≠ 5) (h : okp V r T) : okp V (e :: r) T := fun x hx => ⟨(h x hx).1, fun hz => (h x hx).2 (fun z hz' z5 => hz z (List.mem_cons_of_mem _ hz') z5)⟩
theorem pv_tail {e : wk_E} (hw : pv_w (e :: r, s)) : pv_w (r, s) := ⟨fun z hz => hw.1 z (List.mem_cons_of_mem _ hz), fun z hz => hw.2.1 z (List.mem_cons_of_mem _ hz), hw.2.2.1.2, hw.2.2.2⟩
theorem pv_s {t : gm_S} (hw : pv_w (r, s)) (e : gm_T t = gm_T s) : pv_w (r, t) := by
  unfold pv_w gm_len at hw ⊢
  dsimp only at hw ⊢
  rw [e]
  exact hw
theorem rot_lt {a p q : Nat} {T : List (Int × Int × Int)} (h : a < p) : (gm_rot p q T)[a]? = T[a]? := by
  unfold gm_rot
  by_cases c : p ≤ q ∧ q ≤ T.length
  · rw [if_pos c, List.append_assoc, List.getElem?_append_left (by rw [List.length_take]; omega), List.getElem?_take_of_lt h]
  · rw [if_neg c]
/-- the new values that are no open ones' -/
theorem okp_new {A T T1 : List (Int × Int × Int)} {L : Int} (hT : T1 = T ++ A) (hA : ∀ x ∈ A, x.1 / 10 = L) (hL : ∀ z ∈ r1, z.1 = 5 → z.2.2 < L) (hk : okp V r1 T1) : ∀ x ∈ A, V (x.1 / 10) = x.2.1 := fun x hx => (hk x (by rw [hT]; exact List.mem_append_right _ hx)).2 (fun z hz z5 => by
  have := hL z hz z5
  have := hA x hx
  omega)
/-- a part by itself, from where it goes -/
theorem pv_sgs {u : Int} (hw : pv_w (r, s)) (h : pm_sg 0 g E u r s = some (r1, s1)) : pv_w (r1, s1) ∧ ∃ P, r1 = P ++ r ∧ (∀ z ∈ P, z.1 ≠ 5) ∧ cv V (gm_T s1) r = cv V (gm_T s) r ∧ (okp V r1 (gm_T s1) → okp V r (gm_T s) ∧ ∀ r', wk_ul r' = wk_ul r → dm_sg 0 g V u r' (vs V s) = some (P ++ r', vs V s1)) := by
  obtain ⟨P, A, p1, p2, p3, p4, p5, p6⟩ := pv_sg (V := V) h
  subst p1
  obtain ⟨w1, w3⟩ := pv_ap hw p2 p3 (fun x hx => by have := p4 x hx; omega) p5
  refine ⟨w1, P, rfl, fun z hz => (p2 z hz).1, cv_eq2 w3, fun hk => ⟨okp_ap p3 (fun x hx q => okp_P (fun z hz => (p2 z hz).1) q) hk, p6 (okp_new p3 (fun x hx => (p4 x hx).2.1) (fun z hz z5 => ?_) hk)⟩⟩
  rcases List.mem_append.mp hz with hz | hz
  · exact absurd z5 (p2 z hz).1
  · exact (pv_a hw hz z5).2.1
/-- a node, and what is open in it, over a stack -/
theorem pv_nd {k v : Int} {t : gm_S} {P : List wk_E} (hk0 : 0 ≤ k ∧ k < 10) (hw : pv_w (r, s)) (h1 : gm_c k v s = some t) (hP : ∀ z ∈ P, z.1 ≠ 5 ∧ 0 ≤ z.1 ∧ z.1 ≤ 5) : pv_w (P ++ r, gm_d t) ∧ (okp V (P ++ r) (gm_T (gm_d t)) → okp V r (gm_T s) ∧ V (gm_len s) = v) ∧ (∀ z ∈ r, z.1 = 5 → vl (gm_T (gm_d t)) z.2.2 = vl (gm_T s) z.2.2) := by
  obtain ⟨A, a1, a2, a3, d, a4⟩ := pv_c hk0 h1
  have ld : gm_len (gm_d t) = gm_len t := gm_d_e.1
  have aT : gm_T (gm_d t) = gm_T s ++ A := by rw [gm_d_T]; exact a1
  obtain ⟨w1, w3⟩ := pv_ap hw hP aT (fun x hx => by have := a2 x hx; omega) (by omega)
  refine ⟨w1, fun hk => ⟨okp_ap aT (fun x hx q => okp_P (fun z hz => (hP z hz).1) q) hk, ?_⟩, w3⟩
  have := okp_new aT (fun x hx => (a2 x hx).2.1) (fun z hz z5 => by
    rcases List.mem_append.mp hz with hz | hz
    · exact absurd z5 (hP z hz).1
    · exact (pv_a hw hz z5).2.1) hk _ (by rw [a4]; exact List.mem_cons_self)
  dsimp only at this
  rwa [show (k + 10 * gm_len s) / 10 = gm_len s by omega] at this
theorem n2P : ∀ z ∈ ([(2, 0, 0)] : List wk_E), z.1 ≠ 5 ∧ 0 ≤ z.1 ∧ z.1 ≤ 5 := fun z hz => by
  rw [List.mem_singleton.mp hz]
  exact ⟨show (2 : Int) ≠ 5 by decide, show (0 : Int) ≤ 2 by decide, show (2 : Int) ≤ 5 by decide⟩
theorem pv_st {e : wk_E} (hI : pm_I (e :: r, s)) (hw : pv_w (e :: r, s)) (h : pm_st g E 0 e r s = some (r1, s1)) : pv_w (r1, s1) ∧ (okp V r1 (gm_T s1) → okp V (e :: r) (gm_T s) ∧ dm_st g V 0 (cv1 V (gm_T s) e) (cv V (gm_T s) r) (vs V s) = some (cv V (gm_T s1) r1, vs V s1)) := by
  have hwr := pv_tail hw
  have hul : wk_ul (cv V (gm_T s) r) = wk_ul r := cv_ul
  unfold pm_st at h
  by_cases c0 : e.1 = 0
  · rw [if_pos c0] at h
    have n5 : e.1 ≠ 5 := by omega
    have e1 : cv1 V (gm_T s) e = e := by unfold cv1; rw [if_neg n5]
    rw [e1]
    unfold dm_st
    rw [if_pos c0, vs_op]
    have hwo : pv_w (r, gm_op e.2.2 s) := pv_s hwr gm_op_t
    have To : gm_T (gm_op e.2.2 s) = gm_T s := gm_op_t
    rw [← To] at hul ⊢
    generalize gm_op e.2.2 s = so at h hwo To hul ⊢
    unfold pm_u at h
    unfold dm_u
    by_cases c1 : g 122 e.2.1.toNat = 1
    · rw [if_pos c1] at h ⊢
      obtain ⟨t, h1, h2⟩ := Option.map_eq_some_iff.mp h
      injection h2 with h3 h4
      subst h3
      subst h4
      obtain ⟨A, a1, a2, a3, d, a4⟩ := pv_c (by decide) h1
      have aT : gm_T (gm_d t) = gm_T so ++ A := by rw [gm_d_T]; exact a1
      obtain ⟨w1, w2, w3⟩ := pv_nd (V := V) (P := [(2, 0, 0)]) (by decide) hwo h1 n2P
      have gl : gm_len so = ((gm_T so).length : Int) := rfl
      have hget : (gm_T (gm_d t))[(gm_len so).toNat]? = some (5 + 10 * gm_len so, 0, d) := by
        rw [aT, a4, show (gm_len so).toNat = (gm_T so).length by omega, List.getElem?_append_right (Nat.le_refl _), Nat.sub_self]
        rfl
      refine ⟨⟨fun z hz => ?_, fun z hz z5 => ?_, ⟨fun _ x hx x5 => ?_, w1.2.2.1⟩, w1.2.2.2⟩, fun hk => ⟨okp_cons n5 (okp_ap aT (fun x hx q => fun z hz z5 => ?_) hk), ?_⟩⟩
      · rcases List.mem_cons.mp hz with rfl | hz
        · exact ⟨show (0 : Int) ≤ 5 by decide, show (5 : Int) ≤ 5 by decide⟩
        · exact w1.1 z hz
      · rcases List.mem_cons.mp hz with rfl | hz
        · exact ⟨0, d, hget⟩
        · exact w1.2.1 z hz z5
      · rcases List.mem_cons.mp hx with rfl | hx
        · exact absurd x5 (show (2 : Int) ≠ 5 by decide)
        · exact (pv_a hwo hx x5).2.1
      · rcases List.mem_cons.mp hz with rfl | hz
        · have := (hwo.2.2.2 x hx).2
          dsimp only at this ⊢
          omega
        · rcases List.mem_cons.mp hz with rfl | hz
          · exact absurd z5 (show (2 : Int) ≠ 5 by decide)
          · exact q z hz z5
      · have := vs_c (V := V) (s := so) (by decide) h1 rfl rfl rfl
        rw [vs_len, this, Option.map_some, vs_d]
        have ec : cv V (gm_T (gm_d t)) ((5, e.2.1, gm_len so) :: (2, 0, 0) :: r) = (5, e.2.1, V (gm_len so)) :: (2, 0, 0) :: cv V (gm_T so) r := by
          show cv1 V (gm_T (gm_d t)) (5, e.2.1, gm_len so) :: cv1 V (gm_T (gm_d t)) (2, 0, 0) :: cv V (gm_T (gm_d t)) r = _
          rw [cv_eq2 w3]
          unfold cv1
          dsimp only
          rw [if_pos rfl, if_neg (show ¬ (2 : Int) = 5 by decide)]
          unfold vl
          rw [hget]
          show (5, e.2.1, V (gm_len so) - 0) :: _ = _
          rw [Int.sub_zero]
        rw [ec]
    · rw [if_neg c1] at h ⊢
      by_cases c2 : g 122 e.2.1.toNat = 2
      · rw [if_pos c2] at h ⊢
        obtain ⟨t, h1, h2⟩ := Option.bind_eq_some_iff.mp h
        obtain ⟨w1, w2, w3⟩ := pv_nd (V := V) (P := [(2, 0, 0)]) (by decide) hwo h1 n2P
        have hc := vs_c (V := V) (s := so) (by decide) h1 rfl rfl rfl
        by_cases ch : pm_h E e.2.1 so = true
        · rw [if_pos ch] at h2 w2
          obtain ⟨x1, P, x3, x4, x6, x7⟩ := pv_sgs (V := V) w1 h2
          refine ⟨x1, fun hk => ?_⟩
          obtain ⟨x2, x5⟩ := x7 hk
          obtain ⟨y1, y2⟩ := w2 x2
          refine ⟨okp_cons n5 y1, ?_⟩
          rw [vs_len, hc, Option.bind_some, y2, if_pos (by decide), vs_d, x5 ((2, 0, 0) :: cv V (gm_T so) r) (by
            show wk_ul ((2, 0, 0) :: cv V (gm_T so) r) = wk_ul ((2, 0, 0) :: r)
            rw [wk_ul_o, wk_ul_o, hul]), x3, cv_app, cv_n5 x4, x6]
          have ec : cv V (gm_T (gm_d t)) ([(2, 0, 0)] ++ r) = (2, 0, 0) :: cv V (gm_T so) r := by
            rw [cv_app, cv_n5 (fun z hz => (n2P z hz).1), cv_eq2 w3]
            rfl
          rw [ec]
        · rw [if_neg ch] at h2 w2
          injection h2 with h2
          injection h2 with h3 h4
          subst h3
          subst h4
          refine ⟨w1, fun hk => ?_⟩
          obtain ⟨y1, y2⟩ := w2 hk
          refine ⟨okp_cons n5 y1, ?_⟩
          rw [vs_len, hc, Option.bind_some, y2, if_neg (by decide), vs_d]
          have ec : cv V (gm_T (gm_d t)) ([(2, 0, 0)] ++ r) = (2, 0, 0) :: cv V (gm_T so) r := by
            rw [cv_app, cv_n5 (fun z hz => (n2P z hz).1), cv_eq2 w3]
            rfl
          rw [show ((2, 0, 0) :: r : List wk_E) = [(2, 0, 0)] ++ r from rfl, ec]
      · rw [if_neg c2] at h ⊢
        obtain ⟨x1, P, x3, x4, x6, x7⟩ := pv_sgs (V := V) hwo h
        refine ⟨x1, fun hk => ?_⟩
        obtain ⟨x2, x5⟩ := x7 hk
        refine ⟨okp_cons n5 x2, ?_⟩
        rw [x5 _ hul, x3, cv_app, cv_n5 x4, x6]
  · rw [if_neg c0] at h
    by_cases c1 : e.1 = 1
    · rw [if_pos c1] at h
      have n5 : e.1 ≠ 5 := by omega
      have e1 : cv1 V (gm_T s) e = e := by unfold cv1; rw [if_neg n5]
      rw [e1]
      unfold dm_st
      rw [if_neg c0, if_pos c1]
      unfold pm_fo at h
      unfold dm_fo
      by_cases cf : 1 < g 130 e.2.1.toNat
      · rw [if_pos cf] at h ⊢
        obtain ⟨n, h0, h⟩ := Option.bind_eq_some_iff.mp h
        unfold pm_w at h0
        obtain ⟨j, j1, j2, -⟩ := pm_dr_e _ _ _ _ h0
        obtain ⟨t, h1, h2⟩ := Option.map_eq_some_iff.mp h
        injection h2 with h3 h4
        subst h3
        subst h4
        obtain ⟨w1, w2, w3⟩ := pv_nd (V := V) (P := wk_it g 61 (g 126 (wk_alt g n.toNat (g 129 e.2.1.toNat)).toNat) ++ [(2, 0, 0)]) (by decide) hwr h1 (fun z hz => by
          rcases List.mem_append.mp hz with hz | hz
          · exact ⟨pm_it_5 _ _ z hz, pm_it_c _ _ z hz⟩
          · exact n2P z hz)
        rw [List.append_assoc] at w1 w2
        refine ⟨w1, fun hk => ?_⟩
        obtain ⟨y1, y2⟩ := w2 hk
        refine ⟨okp_cons n5 y1, ?_⟩
        have := vs_c (V := V) (s := s) (by decide) h1 rfl rfl rfl
        rw [y2] at this
        rw [vs_len, y2, if_pos ⟨by omega, by omega⟩, this, Option.map_some, vs_d, cv_app, cv_n5 (fun z hz => pm_it_5 _ _ z hz)]
        have ec : cv V (gm_T (gm_d t)) ([(2, 0, 0)] ++ r) = (2, 0, 0) :: cv V (gm_T s) r := by
          rw [cv_app, cv_n5 (fun z hz => (n2P z hz).1), cv_eq2 w3]
          rfl
        rw [show ((2, 0, 0) :: r : List wk_E) = [(2, 0, 0)] ++ r from rfl, ec]
      · rw [if_neg cf] at h ⊢
        injection h with h
        injection h with h3 h4
        subst h3
        subst h4
        obtain ⟨w1, w3⟩ := pv_ap (s1 := s) (A := []) (P := wk_it g 61 (g 126 (g 129 e.2.1.toNat).toNat)) hwr (fun z hz => ⟨pm_it_5 _ _ z hz, pm_it_c _ _ z hz⟩) (List.append_nil _).symm (fun x hx => by cases hx) (Int.le_refl _)
        refine ⟨w1, fun hk => ⟨okp_cons n5 (okp_ap (A := []) (List.append_nil _).symm (fun x hx q => okp_P (fun z hz => pm_it_5 _ _ z hz) q) hk), ?_⟩⟩
        rw [cv_app, cv_n5 (fun z hz => pm_it_5 _ _ z hz)]
    · rw [if_neg c1] at h
      by_cases c5 : e.1 = 5
      · rw [if_pos c5] at h
        obtain ⟨z0, z1, z2, v, d, zg, zm⟩ := pv_a hw List.mem_cons_self c5
        have evl : vl (gm_T s) e.2.2 = v := by unfold vl; rw [zg]; rfl
        have e1 : cv1 V (gm_T s) e = (5, e.2.1, V e.2.2 - v) := by unfold cv1; rw [if_pos c5, evl]
        have hlt := hw.2.2.1.1 c5
        rw [e1, dm_st_5]
        unfold pm_ag at h
        unfold dm_ag
        by_cases ch : pm_h E e.2.1 s = true
        · rw [if_pos ch] at h
          obtain ⟨i1, i2, i3, i4⟩ := pm_inc_e (s := s) (a := e.2.2)
          have il : gm_len (pm_inc e.2.2 s) = gm_len s := pm_inc_len
          have vi : vs V (pm_inc e.2.2 s) = vs V s := by
            unfold vs
            rw [i2, i3, i4, vT_up (a := 0)]
          have gi : (gm_T (pm_inc e.2.2 s))[e.2.2.toNat]? = some (5 + 10 * e.2.2, v + 1, d) := by
            rw [i2, pm_up_get, if_pos rfl, zg]
            rfl
          have gj : ∀ z ∈ r, z.1 = 5 → (gm_T (pm_inc e.2.2 s))[z.2.2.toNat]? = (gm_T s)[z.2.2.toNat]? := fun z hz z5 => by
            have := hlt z hz z5
            have := (pv_a hwr hz z5).1
            rw [i2, pm_up_get, if_neg (by omega)]
          have hwi : pv_w ((5, e.2.1, e.2.2) :: r, pm_inc e.2.2 s) := by
            refine ⟨fun z hz => ?_, fun z hz z5 => ?_, ⟨fun _ => hlt, hwr.2.2.1⟩, fun x hx => ?_⟩
            · rcases List.mem_cons.mp hz with rfl | hz
              · exact ⟨show (0 : Int) ≤ 5 by decide, show (5 : Int) ≤ 5 by decide⟩
              · exact hwr.1 z hz
            · rcases List.mem_cons.mp hz with rfl | hz
              · exact ⟨_, _, gi⟩
              · obtain ⟨v', d', h'⟩ := hwr.2.1 z hz z5
                exact ⟨v', d', (gj z hz z5).trans h'⟩
            · have hx : x ∈ gm_T (pm_inc e.2.2 s) := hx
              rw [i2] at hx
              obtain ⟨y, y1, y2⟩ := pm_up_mem3 _ _ hx
              have := hw.2.2.2 y y1
              dsimp only at this ⊢
              rw [il, ← y2]
              exact this
          obtain ⟨x1, P, x3, x4, x6, x7⟩ := pv_sgs (V := V) hwi h
          refine ⟨x1, fun hk => ?_⟩
          obtain ⟨x2, x5⟩ := x7 hk
          have k5 := (x2 _ (List.mem_of_getElem? gi)).1
          dsimp only at k5
          rw [show (5 + 10 * e.2.2) / 10 = e.2.2 by omega] at k5
          refine ⟨fun x hx => ?_, ?_⟩
          · obtain ⟨y, y1, y2, y3⟩ := pm_up_mem (gm_T s) e.2.2.toNat hx
            have ky := x2 y (by rw [i2]; exact y1)
            refine ⟨?_, fun q => ?_⟩
            · rw [← y2]
              omega
            · have hne : ∀ z, (gm_T s)[e.2.2.toNat]? = some z → z.1 ≠ x.1 := fun z hz => by
                rw [zg] at hz
                injection hz with hz
                subst hz
                intro q2
                have q2 : 5 + 10 * e.2.2 = x.1 := q2
                have := q e List.mem_cons_self c5
                omega
              have hxm := pm_up_mem2 (gm_T s) e.2.2.toNat hx hne
              refine (x2 x (by rw [i2]; exact hxm)).2 (fun z hz z5 => ?_)
              rcases List.mem_cons.mp hz with rfl | hz
              · exact q e List.mem_cons_self c5
              · exact q z (List.mem_cons_of_mem _ hz) z5
          · have key := x5 ((5, e.2.1, V e.2.2 - v - 1) :: cv V (gm_T s) r) (by rw [wk_ul_c (show (5 : Int) ≠ 2 by decide), wk_ul_c (show (5 : Int) ≠ 2 by decide), hul])
            rw [vi] at key
            rw [if_pos (by omega), key, x3, cv_app, cv_n5 x4, x6]
            have ec : cv V (gm_T (pm_inc e.2.2 s)) ((5, e.2.1, e.2.2) :: r) = (5, e.2.1, V e.2.2 - v - 1) :: cv V (gm_T s) r := by
              show cv1 V (gm_T (pm_inc e.2.2 s)) (5, e.2.1, e.2.2) :: cv V (gm_T (pm_inc e.2.2 s)) r = _
              rw [cv_eq2 (T := gm_T s) (fun z hz z5 => by unfold vl; rw [gj z hz z5])]
              unfold cv1
              dsimp only
              rw [if_pos rfl]
              unfold vl
              rw [gi]
              show (5, e.2.1, V e.2.2 - (v + 1)) :: _ = _
              rw [show V e.2.2 - (v + 1) = V e.2.2 - v - 1 by omega]
            rw [ec]
        · rw [if_neg ch] at h
          injection h with h
          injection h with h3 h4
          subst h3
          subst h4
          refine ⟨hwr, fun hk => ?_⟩
          have kk := (hk _ zm).2 (fun z hz z5 => by
            have := hlt z hz z5
            dsimp only
            omega)
          dsimp only at kk
          rw [show (5 + 10 * e.2.2) / 10 = e.2.2 by omega] at kk
          rw [if_neg (by omega)]
          exact ⟨fun x hx => ⟨(hk x hx).1, fun q => (hk x hx).2 (fun z hz z5 => q z (List.mem_cons_of_mem _ hz) z5)⟩, rfl⟩
      · rw [if_neg c5] at h
        have e1 : cv1 V (gm_T s) e = e := by unfold cv1; rw [if_neg c5]
        rw [e1]
        unfold dm_st
        rw [if_neg c0, if_neg c1, if_neg c5]
        by_cases c2 : e.1 = 2
        · rw [if_pos c2] at h ⊢
          injection h with h
          injection h with h3 h4
          subst h3
          subst h4
          have eT : gm_T ((gm_X s, gm_F s, gm_T s, gm_D s - 1, gm_P s) : gm_S) = gm_T s := gm_T_mk _ _ _ _ _
          rw [eT]
          refine ⟨pv_s hwr eT, fun hk => ⟨okp_cons c5 hk, ?_⟩⟩
          rw [vs_2]
        · rw [if_neg c2] at h ⊢
          by_cases c3 : e.1 = 3
          · rw [if_pos c3] at h ⊢
            injection h with h
            injection h with h3 h4
            subst h3
            subst h4
            rw [gm_mid_T]
            refine ⟨pv_s hwr gm_mid_T, fun hk => ⟨okp_cons c5 hk, ?_⟩⟩
            rw [vs_mid]
          · rw [if_neg c3] at h ⊢
            injection h with h
            injection h with h3 h4
            subst h3
            subst h4
            have e4 : e.1 = 4 := by
              have := hw.1 e List.mem_cons_self
              omega
            rw [vs_tu]
            unfold gm_tu
            have hal := hI.2.2.2.2.1
            dsimp only at hal
            cases hP : gm_P s with
            | nil =>
              exact ⟨hwr, fun hk => ⟨okp_cons c5 hk, rfl⟩⟩
            | cons p q =>
              rw [hP] at hal
              dsimp only
              have eR : gm_T ((gm_X s, gm_F s, gm_rot p.1 p.2 (gm_T s), gm_D s, q) : gm_S) = gm_rot p.1 p.2 (gm_T s) := gm_T_mk _ _ _ _ _
              rw [eR]
              obtain ⟨x, y, z⟩ := e
              have e4 : x = 4 := e4
              subst e4
              have hal : pm_al ((4, y, z) :: r) ((p.1 : Int) :: pm_bg q) := hal
              rw [pm_al_4] at hal
              have gr : ∀ w ∈ r, w.1 = 5 → (gm_rot p.1 p.2 (gm_T s))[w.2.2.toNat]? = (gm_T s)[w.2.2.toNat]? := fun w hw2 w5 => by
                have := hal.1 w hw2 w5
                have := (pv_a hwr hw2 w5).1
                exact rot_lt (by omega)
              refine ⟨⟨hwr.1, fun w hw2 w5 => ?_, hwr.2.2.1, fun x hx => ?_⟩, fun hk => ⟨okp_cons c5 (fun x hx => hk x (mem_rot hx)), ?_⟩⟩
              · obtain ⟨v', d', h'⟩ := hwr.2.1 w hw2 w5
                refine ⟨v', d', ?_⟩
                dsimp only
                rw [gm_T_mk]
                exact (gr w hw2 w5).trans h'
              · dsimp only at hx ⊢
                rw [gm_T_mk] at hx
                have := hwr.2.2.2 x (mem_rot' hx)
                unfold gm_len at this ⊢
                rw [gm_T_mk, gm_rot_len]
                exact this
              · rw [cv_eq2 (T := gm_T s) (T' := gm_rot p.1 p.2 (gm_T s)) (fun w hw2 w5 => by unfold vl; rw [gr w hw2 w5])]
/-- all of it -/
theorem pv_to {s' : gm_S} (hV : vo V s') : ∀ (n : Nat) (c : gm_C), pm_I c → pv_w c → pw_to (pm_st g E 0) n c ([], s') → okp V c.1 (gm_T c.2) ∧ pw_to (dm_st g V 0) n (cv V (gm_T c.2) c.1, vs V c.2) ([], vs V s') := by
  intro n
  induction n with
  | zero =>
    intro c _ _ h
    have h : c = ([], s') := h
    subst h
    exact ⟨fun x hx => ⟨Int.le_of_eq (hV x hx).symm, fun _ => hV x hx⟩, rfl⟩
  | succ n ih =>
    intro c hI hw h
    obtain ⟨e, r, c1, a1, a2, a3⟩ := h
    obtain ⟨B, s⟩ := c
    have a1 : B = e :: r := a1
    subst a1
    have hc := hw.1 e List.mem_cons_self
    have hI1 := pm_st_I (by omega) hI a2
    obtain ⟨hw1, key⟩ := pv_st (V := V) hI hw (show pm_st g E 0 e r s = some (c1.1, c1.2) from a2)
    obtain ⟨i1, i2⟩ := ih c1 hI1 hw1 a3
    obtain ⟨k2, k3⟩ := key i1
    exact ⟨k2, cv1 V (gm_T s) e, cv V (gm_T s) r, _, rfl, k3, i2⟩
end VP2
