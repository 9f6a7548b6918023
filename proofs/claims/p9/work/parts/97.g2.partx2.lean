/-! the reference's part, exactly: a group; from its begin -/
section PTY
variable {d : Nat} {h h0 : sm_H} {g : wk_g} {Y : wk_Y} {z : rd_Z} {q s : Int}
theorem px_grp (hP : pt_P h0 Y z q) (hq : RQ g h0) (hU : mi_f h0 13963 < 60) (hs : px_S g h0 h 10) (ht : mi_f h0 14001 = 40) (hk4 : mi_f h0 14003 ≠ 4) : me_E (d + 9) 190 196 [some (.inr (.inr 109)), some (.inl (mi_f h0 13963))] [] h (px_Q g h0) := by
  obtain ⟨hI, q0, hS0, hR, hf0⟩ := hP
  have bU := me_fb (c := 13963) hS0 rfl
  have bR := me_fb (c := 13961) hS0 rfl
  have bA := me_fb (c := 13964) hS0 rfl
  have bF := me_fb (c := 13965) hS0 rfl
  obtain ⟨⟨s1, s2, s3, s4, s5, s6, s7, s8, s9, s11, s12⟩, hx⟩ := hs
  have ok : mi_in (mi_f h0 13963) := ⟨by omega, by omega⟩
  obtain ⟨⟨k0, k1⟩, ⟨f0, f1, f2⟩, c1, ⟨a0, a1⟩, l1, l2, l3, hb⟩ := rs_lev hI hS0
  obtain ⟨⟨i1, i2, i3, i4, i5, i6, i7, i9⟩, i10, i11⟩ := hI
  have e3 : mi_f h 14003 = mi_f h0 14003 := me_f (c := 14003) s2 hS0 rfl rfl
  have eF : mi_f h 13965 = mi_f h0 13965 := me_f (c := 13965) s2 hS0 rfl rfl
  have eA : mi_f h 13964 = mi_f h0 13964 := me_f (c := 13964) s2 hS0 rfl rfl
  have eU : mi_a h 119 (mi_f h0 13963).toNat = 10 := by rw [s4, if_pos rfl]
  have gU : g 0 0 = mi_f h0 13963 := hq.1.1
  have gF : g 0 2 = mi_f h0 13965 := hq.1.2.2.1
  have gO : g 0 5 = mi_f h0 14003 := hq.1.2.2.2.2.2
  have hx1 : mi_f h 13960 = 0 ∧ lc_ok h ∧ RQ (rf_unit g 10 0 (mi_f h0 14002)) h := by
    rcases hx with ⟨x1, x2, w, gl, x3, x4, x5, x6⟩ | ⟨x1, x2, x3⟩
    · rcases x6 with ⟨y1, y2⟩ | ⟨y1, y2, y3⟩
      · exact absurd y1 (by decide)
      · have ew : w = 0 := by rw [y3, ht]; rfl
        rw [y2, ew] at x3
        exact ⟨x1, x2, x3⟩
    · exact absurd x1 (by decide)
  obtain ⟨x1, x2, x3⟩ := hx1
  clear hx
  refine mt_ptG s1 ok ?_ ?_
  rotate_left
  · intro c
    exact absurd eU c
  intro b c
  refine ⟨⟨⟨by omega, by omega⟩, ⟨by omega, by omega⟩, ⟨by omega, by omega⟩, ⟨by omega, by omega⟩, ⟨by omega, by omega⟩⟩, fun h1 g1 g2 g3 g4 => ?_⟩
  have eF1 : mi_f h1 13965 = mi_f h0 13965 := (me_f (c := 13965) g4 s1 rfl rfl).trans eF
  have R1 := RQ_o1 x3 s1 g4 g2 g3
  refine ⟨_, me_newForm (d := d + 8) g1 (by omega), fun w h2 ow hq2 => ?_⟩
  obtain ⟨rfl, p1, p2, p3, p4, p5⟩ := hq2
  have R2 := RQ_new R1 g1 p2 p3 p4 p5
  have e32 : mi_f h2 14003 = mi_f h0 14003 + 1 := by rw [me_f (c := 14003) p2 g1 rfl rfl, g2, e3]
  refine mt_ptI (zz := mi_f h1 13965) (zv := mi_f h 14003 + 1) p1 ok ⟨by omega, by omega⟩ ⟨by omega, by omega⟩ ?_
  intro b2
  refine ⟨⟨⟨by omega, by omega⟩, ⟨by omega, by omega⟩, ⟨by omega, by omega⟩, ⟨by omega, by omega⟩⟩, fun h3 r1 r2 r3 r4 => ?_⟩
  have R3 := RQ_o2 (u := mi_f h0 13963) (f := mi_f h0 13965) R2 p1 r4 (fun i => by rw [r2, e32, e3, if_pos rfl, eF1]) (fun i => by rw [r3, eF1, e32, e3])
  have e33 : mi_f h3 14003 = mi_f h0 14003 + 1 := by rw [me_f (c := 14003) r4 p1 rfl rfl, e32]
  have eA3 : mi_f h3 13964 = mi_f h0 13964 := by rw [me_f (c := 13964) r4 p1 rfl rfl, me_f (c := 13964) p2 g1 rfl rfl, me_f (c := 13964) g4 s1 rfl rfl, eA]
  have top : mi_a h3 146 (mi_f h3 14003).toNat = mi_f h0 13965 := by rw [r3, e33, e3, if_pos rfl, eF1]
  have ch : mi_a h3 130 (mi_a h3 146 (mi_f h3 14003).toNat).toNat = 0 := by rw [top, me_a (k := 130) r4 p1 rfl rfl, p5, eF1, if_pos rfl]
  refine ⟨_, me_beginx (d := d + 8) (zp := 0) r1 ⟨by decide, by decide⟩ (by omega) (by omega) (by rw [top]; omega) (by rw [top]; omega) (by rw [ch]; decide) (fun c => absurd ch c), fun w h4 ow hq2 => ?_⟩
  obtain ⟨rfl, t1, t2, t3, t4⟩ := hq2
  have R4 := RQ_beg R3 r1 t2 t3 t4
  refine mt_ptJ t1 ok (fun h5 u1 u2 => ?_)
  have e := me_nil u2
  subst e
  have FF : ab_Fr [(13964, 13966), (14003, 14004), (15360, 15361), (16128, 16641), (18688, 19329)] h h5 := (((g4.wide (fun c hc => ab_swr_ok (by decide) hc)).trans (p2.wide (fun c hc => ab_swr_ok (by decide) hc))).trans (r4.wide (fun c hc => ab_swr_ok (by decide) hc))).trans (t2.wide (fun c hc => ab_swr_ok (by decide) hc))
  have ef : mi_f h5 13960 = 0 := (me_f (c := 13960) FF s1 rfl rfl).trans x1
  refine ⟨rfl, t1, Or.inr ⟨fun hn => ?_, ef, fun k hk => ?_, _, Or.inl ⟨ht, rfl⟩, ?_⟩⟩
  · clear s9 s11 i7 i9 l1
    rcases hn with x | x | x
    · omega
    · omega
    · omega
  · rw [me_f (c := 13962) FF s1 rfl rfl] at hk
    rw [me_a (k := 117) FF s1 rfl rfl, me_b (k := 118) FF s1 rfl rfl]
    exact x2 k hk
  · rw [gU, gF]
    exact R4
theorem px_go (hP : pt_P h0 Y z q) (hq : RQ g h0) (hT : px_T h0) (hU : mi_f h0 13963 < 60) (hk : mi_f h0 14001 = 40 → mi_f h0 14003 ≠ 4) (hs : px_S g h0 h s) (ht : s = pu_s (mi_f h0 14001) (mx_l h0 14004).toInt) : me_E (d + 9) 190 196 [some (.inr (.inr 109)), some (.inl (mi_f h0 13963))] [] h (px_Q g h0) := by
  by_cases c : mi_f h0 14001 = 40
  · have s10 : s = 10 := by rw [ht, c]; rfl
    subst s10
    exact px_grp hP hq hU hs c (hk c)
  · refine px_put hP hq hT hU hs ht (fun s10 => ?_)
    rw [s10] at ht
    unfold pu_s at ht
    by_cases c1 : mi_f h0 14001 = 1
    · rw [if_pos c1] at ht
      unfold so_r at ht
      revert ht
      split <;> (try decide)
      split <;> (try decide)
      split <;> (try decide)
      split <;> (try decide)
      split <;> (try decide)
      split <;> (try decide)
      split <;> (try decide)
    · rw [if_neg c1] at ht
      by_cases c2 : mi_f h0 14001 = 2
      · rw [if_pos c2] at ht
        exact absurd ht (by decide)
      · rw [if_neg c2, if_neg c] at ht
        exact absurd ht (by decide)
theorem px155 (hP : pt_P h0 Y z q) (hq : RQ g h0) (hT : px_T h0) (hU : mi_f h0 13963 < 60) (hk : mi_f h0 14001 = 40 → mi_f h0 14003 ≠ 4) (hs : pt_T h0 h s) (hr : RQ (rf_unit g s (pu_w (mi_f h0 14001) (mx_l h0 14004).toInt) (mi_f h0 14002)) h) (hl : lc_ok h) (ht : s = pu_s (mi_f h0 14001) (mx_l h0 14004).toInt) : me_E (d + 9) 190 155 [some (.inr (.inr 109)), some (.inl (mi_f h0 13963))] [] h (px_Q g h0) := by
  have hS0 := hP.2.2.1
  have bU := me_fb (c := 13963) hS0 rfl
  have bP := hP.2.2.2.1.1
  have ok : mi_in (mi_f h0 13963) := ⟨by omega, by omega⟩
  obtain ⟨s1, s2, s3, s4, s5, s6, s7, s8, s9, s10⟩ := id hs
  have eU : mi_a h 119 (mi_f h0 13963).toNat = s := by rw [s4, if_pos rfl]
  have g04 : g 0 4 = mi_f h 13962 := hr.1.2.2.2.2.1
  have g117 : ∀ i, g 117 i = lc_r h i := hr.2.2
  refine mt_ptE s1 ok ?_ ?_
  · intro c
    refine ⟨⟨by omega, by omega⟩, fun h1 g1 g2 => ?_⟩
    have e := me_nil g2
    subst e
    rw [eU] at c
    exact px_go hP hq hT hU hk ⟨⟨s1, s2, s3, s4, s5, s6, s7, by omega, s9, fun x => absurd x c, s10⟩, Or.inl ⟨s8, hl, _, g, hr, rfl, rfl, Or.inr ⟨c, rfl, rfl⟩⟩⟩ ht
  · intro c
    refine ⟨⟨by omega, by omega⟩, fun h1 g1 g2 => ?_⟩
    have e := me_nil g2
    subst e
    rw [eU] at c
    have e01 : mi_f h1 14001 = mi_f h0 14001 := me_f (c := 14001) s2 hS0 rfl rfl
    have e04 : mx_l h1 14004 = mx_l h0 14004 := me_l (c := 14004) s2 hS0 rfl rfl
    have t34 : mi_f h0 14001 = 3 ∨ mi_f h0 14001 = 4 := by
      have ip := hT.1
      unfold ip_t at ip
      rw [c] at ht
      unfold pu_s at ht
      by_cases c1 : mi_f h0 14001 = 1
      · rw [if_pos c1] at ht
        exfalso
        unfold so_r at ht
        revert ht
        split <;> (try decide)
        split <;> (try decide)
        split <;> (try decide)
        split <;> (try decide)
        split <;> (try decide)
        split <;> (try decide)
        split <;> (try decide)
      · rw [if_neg c1] at ht
        by_cases c2 : mi_f h0 14001 = 2
        · rw [if_pos c2] at ht
          exact absurd ht (by decide)
        · by_cases c3 : mi_f h0 14001 = 40
          · rw [if_neg c2, if_pos c3] at ht
            exact absurd ht (by decide)
          · omega
    refine ⟨_, me_literalx (d := d + 8) s1 hl (by
      rw [e01, e04]
      rcases t34 with x | x
      · exact Or.inl ⟨x, hT.2.1 x⟩
      · exact Or.inr ⟨x, hT.2.2 x⟩), fun w h2 ow hq2 => ?_⟩
    obtain ⟨q1, q2, v, rfl, hv⟩ := hq2
    rw [e01, e04] at hv
    have F2 : ab_Fr pt_V h0 h2 := s2.trans (q2.wide (fun c hc => ab_swr_ok (by decide) hc))
    have bl := me_fb (c := 13962) s1 rfl
    have ef : mi_f h2 13960 = 0 := (me_f (c := 13960) q2 s1 rfl rfl).trans s8
    have v0 : 0 ≤ v ∧ v ≤ 20 := by
      rcases hv with x | ⟨-, x | x⟩
      · omega
      · omega
      · omega
    have e2 : mi_f h2 14002 = mi_f h0 14002 := me_f (c := 14002) F2 hS0 rfl rfl
    have mk : ∀ {h3 : sm_H} {wr : List (Nat × Nat)}, ab_Sh sx_sk h3 → ab_Fr wr h2 h3 → ab_sub_wr wr [(13960, 13961), (15360, 15361)] = true → (∀ i, mi_a h3 120 i = if i = (mi_f h0 13963).toNat then v else mi_a h2 120 i) → (v < 20 ∨ 0 < mi_f h3 13960) → 0 ≤ mi_f h3 13960 → pt_S h0 h3 s := fun {h3 wr} r1 r2 hw r3 r4 r5 => by
      have r2 : ab_Fr [(13960, 13961), (15360, 15361)] h2 h3 := r2.wide (fun c hc => ab_swr_ok hw hc)
      refine ⟨r1, F2.trans (r2.wide (fun c hc => ab_swr_ok (by decide) hc)), ?_, fun i => ?_, fun i hi => ?_, fun i => ?_, fun i => ?_, r5, fun x => by omega, fun _ => ?_, fun i => ?_⟩
      · rw [me_f (c := 13963) r2 q1 rfl rfl, me_f (c := 13963) q2 s1 rfl rfl, s3]
      · rw [me_a (k := 119) r2 q1 rfl rfl, me_a (k := 119) q2 s1 rfl rfl, s4]
      · rw [r3, if_neg hi, me_a (k := 120) q2 s1 rfl rfl, s5 i hi]
      · rw [me_a (k := 124) r2 q1 rfl rfl, me_a (k := 124) q2 s1 rfl rfl, s6]
      · rw [me_a (k := 125) r2 q1 rfl rfl, me_a (k := 125) q2 s1 rfl rfl, s7]
      · rw [r3, if_pos rfl]
        exact ⟨v0.1, r4⟩
      · rw [me_a (k := 121) r2 q1 rfl rfl, me_a (k := 121) q2 s1 rfl rfl, s10]
    have U0 : mi_f h1 13963 = mi_f h0 13963 + 1 := s3
    /- the rows with the literal's number -/
    have fin : ∀ {h3 : sm_H} {gl : wk_g}, RQ (rf_unit gl s (pu_w (mi_f h0 14001) (mx_l h0 14004).toInt) (mi_f h0 14002)) h2 → gl 0 0 = g 0 0 → ab_Sh sx_sk h3 → (∀ i, mi_a h3 120 i = if i = (mi_f h0 13963).toNat then v else mi_a h2 120 i) → ab_Fr [(15360, 15361)] h2 h3 → RQ (rf_unit gl s v (mi_f h0 14002)) h3 := fun {h3 gl} y1 y2 y3 y4 y5 => by
      have W := RQ_word (u := mi_f h0 13963) (w := v) y1 q1 y5 y4
      have gU : gl 0 0 = mi_f h0 13963 := y2.trans hq.1.1
      obtain ⟨a1, a2, a3⟩ := W
      refine ⟨a1, fun r hr i => ?_, a3⟩
      have := a2 r hr i
      rw [← this]
      unfold rf_word rf_unit
      rw [gU]
      by_cases c120 : r = 120
      · subst c120
        simp only [if_true]
        by_cases ci : i = (mi_f h0 13963).toNat
        · simp [ci]
        · simp [ci]
      · simp [c120]
    refine mt_ptF (zz := v) (zv := mi_f h0 13963) q1 ok ⟨by omega, by omega⟩ ok ?_ ?_
    · intro c2
      rw [if_pos rfl] at c2
      refine ⟨⟨⟨by omega, by omega⟩, ⟨by omega, by omega⟩⟩, fun h3 r1 r2 r3 => ?_⟩
      have ef3 : mi_f h3 13960 = 0 := (me_f (c := 13960) r3 q1 rfl rfl).trans ef
      have lk3 : lc_ok h2 → lc_ok h3 := fun x k hk => by
        rw [me_f (c := 13962) r3 q1 rfl rfl] at hk
        rw [me_a (k := 117) r3 q1 rfl rfl, me_b (k := 118) r3 q1 rfl rfl]
        exact x k hk
      rcases hv with ⟨x1, x2, x3, x4, x5⟩ | ⟨x1, x2 | ⟨y1, y2, y3, y4, y5⟩⟩
      · subst x5
        refine px_go hP hq hT hU hk ⟨mk r1 r3 (by decide) r2 (Or.inl (by omega)) (by omega), Or.inl ⟨ef3, lk3 hl, v, g, fin hr rfl r1 r2 r3, rfl, rfl, Or.inl ⟨c, Or.inl ⟨x1, by omega, ?_, fun j hj => ?_, rfl⟩⟩⟩⟩ ht
        · rw [g117]; exact x3
        · rw [g117]; exact x4 j hj
      · exfalso; omega
      · have RL := RQ_lit hr s1 q2 y3 y5
        have same : rf_lit (rf_unit g s (pu_w (mi_f h0 14001) (mx_l h0 14004).toInt) (mi_f h0 14002)) (lc_t (mi_f h0 14001) (mx_l h0 14004).toInt) = rf_unit (rf_lit g (lc_t (mi_f h0 14001) (mx_l h0 14004).toInt)) s (pu_w (mi_f h0 14001) (mx_l h0 14004).toInt) (mi_f h0 14002) := by
          funext r i
          unfold rf_lit rf_unit
          by_cases c0 : r = 0
          · subst c0
            simp only [if_true]
            by_cases i4 : i = 4
            · subst i4; simp
            · by_cases i0 : i = 0
              · subst i0; simp
              · simp [i4, i0]
          · by_cases c117 : r = 117
            · subst c117
              simp
            · simp [c0, c117]
        rw [same] at RL
        refine px_go hP hq hT hU hk ⟨mk r1 r3 (by decide) r2 (Or.inl (by omega)) (by omega), Or.inl ⟨ef3, lk3 y4, v, _, fin RL rfl r1 r2 r3, rfl, rfl, Or.inl ⟨c, Or.inr ⟨fun j hj => ?_, by omega, by omega, rfl⟩⟩⟩⟩ ht
        rw [g117]
        exact x1 j (by omega)
    · intro c2
      rw [if_pos rfl] at c2
      refine ⟨⟨⟨by omega, by omega⟩, ⟨by omega, by omega⟩⟩, fun h3 r1 r2 r3 => ?_⟩
      have ef3 : mi_f h3 13960 = 0 := (me_f (c := 13960) r3 q1 rfl rfl).trans ef
      refine ⟨_, me_blamex (d := d + 8) r1 (by decide) (by decide) (by omega) (by omega) ef3, fun w h4 ow hq2 => ?_⟩
      obtain ⟨rfl, t1, t2, t3⟩ := hq2
      have F4 : ab_Fr [(13960, 13961), (15360, 15361)] h2 h4 := (r3.wide (fun c hc => ab_swr_ok (by decide) hc)).trans (t2.wide (fun c hc => ab_swr_ok (by decide) hc))
      rcases hv with ⟨x1, x2, x3, x4, x5⟩ | ⟨x1, ⟨y1, y2, y3⟩ | y⟩
      · exfalso; omega
      · refine px_go hP hq hT hU hk ⟨mk t1 F4 (by decide) (fun i => by rw [me_a (k := 120) t2 r1 rfl rfl, r2]) (Or.inr (by omega)) (by omega), Or.inr ⟨c, ⟨fun j hj => ?_, by omega⟩, by omega⟩⟩ ht
        rw [g117]
        exact x1 j (by omega)
      · exfalso; omega
end PTY
