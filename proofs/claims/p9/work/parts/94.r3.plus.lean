/-! reading: plus; a level closes, an alternative begins, a pair is announced: the program's state -/
def pl_W : List (Nat × Nat) := [(13960, 13961), (14000, 14003), (14004, 14005), (15360, 15361)]
section PLU
variable {d : Nat} {h h0 h' : sm_H} {Y : wk_Y} {z : rd_Z} {q : Int}
theorem rs_word (hI : rs_I h Y z q) (hS : ab_Sh sx_sk h) (hF : ab_Fr [(15360, 15361)] h h') (h120 : ∀ i : Nat, i ≠ (mi_f h 13963 - 1).toNat → mi_a h' 120 i = mi_a h 120 i) (hs : mi_a h 119 (mi_f h 13963 - 1).toNat ≤ 7) : rs_I h' Y z q := by
  obtain ⟨⟨i1, i2, i3, i4, i5, i6, i7, i9⟩, i10, i11⟩ := hI
  have e61 : mi_f h' 13961 = mi_f h 13961 := me_f (c := 13961) hF hS rfl rfl
  have e63 : mi_f h' 13963 = mi_f h 13963 := me_f (c := 13963) hF hS rfl rfl
  have e64 : mi_f h' 13964 = mi_f h 13964 := me_f (c := 13964) hF hS rfl rfl
  have e65 : mi_f h' 13965 = mi_f h 13965 := me_f (c := 13965) hF hS rfl rfl
  have e3 : mi_f h' 14003 = mi_f h 14003 := me_f (c := 14003) hF hS rfl rfl
  refine ⟨⟨rd_word i1 (me_as _ hF hS (by decide)) h120 (by omega) (by omega) (by omega), by omega, by omega, by omega, by omega, by omega, rs_Rt i7 hF hS rfl (fun _ x => x) (rs_Pf i7 hF hS rfl), fun f x0 x1 => ?_⟩, by omega, ?_⟩
  · rw [me_a (k := 130) hF hS rfl rfl]
    exact i9 f x0 (by omega)
  · rw [me_a (k := 146) hF hS rfl rfl]
    exact i11
def pl_Q (h0 : sm_H) (Y : wk_Y) (z : rd_Z) (w : Option mi_V) (h' : sm_H) : Prop :=
  w = none ∧ ab_Sh sx_sk h' ∧ ab_Fr pl_W h0 h' ∧ 0 ≤ mi_f h' 13960 ∧ (mi_f h' 13960 = 0 → mi_f h' 14000 ≤ 241 ∧ rs_I h' Y z 1)
theorem me_plus (hI : rs_I h0 Y z 1) (hS0 : ab_Sh sx_sk h0) (hf : mi_f h0 13960 = 0) (ha : mi_f h0 14000 ≤ 241) (hU : 1 ≤ mi_f h0 13963) (hs : mi_a h0 119 (mi_f h0 13963 - 1).toNat ≤ 7) : me_E (d + 9) 193 0 [some (.inr (.inr 109)), none] [] h0 (pl_Q h0 Y z) := by
  have b0 := me_fb (c := 14000) hS0 rfl
  have ok : mi_in (mi_f h0 14000) := ⟨by omega, by omega⟩
  refine mt_plA hS0 (fun h1 g1 g2 => ?_)
  have e := me_nil g2
  subst e
  refine ⟨_, me_scan (d := d + 6) hS0 ha, fun w h2 ow hq => ?_⟩
  obtain ⟨rfl, q1, q2, q3⟩ := hq
  have ef2 : mi_f h2 13960 = 0 := (me_f (c := 13960) q2 hS0 rfl rfl).trans hf
  refine mt_plB q1 ok ?_ ?_
  · intro b c h3 g1 g2
    have e := me_nil g2
    subst e
    refine ⟨_, me_scan (d := d + 6) q1 (q3.2.1 (by omega) (by omega)), fun w h4 ow hq => ?_⟩
    obtain ⟨rfl, r1, r2, r3⟩ := hq
    have F4 : ab_Fr sn_W h1 h4 := q2.trans r2
    have ef4 : mi_f h4 13960 = 0 := (me_f (c := 13960) r2 q1 rfl rfl).trans ef2
    have e63 : mi_f h4 13963 = mi_f h1 13963 := me_f (c := 13963) F4 hS0 rfl rfl
    have I4 := rs_fr hI hS0 F4 (by decide)
    refine mt_plC r1 ok ?_ ?_
    · intro b c h5 g1 g2
      have e := me_nil g2
      subst e
      refine ⟨_, me_blame (d := d + 8) r1 (by decide) (by decide) (by have := r3.1; omega) (by have := r3.1; omega) (by omega), fun w h6 ow hq => ?_⟩
      obtain ⟨rfl, t1, t2, t3⟩ := hq
      refine mt_plD t1 ok (fun h7 g1 g2 => ?_)
      have e := me_nil g2
      subst e
      exact ⟨rfl, t1, (F4.wide (fun c hc => ab_swr_ok (by decide) hc)).trans (t2.wide (fun c hc => ab_swr_ok (by decide) hc)), by omega, fun x => by omega⟩
    · intro b b2 c
      refine ⟨⟨⟨by omega, by omega⟩, ⟨by omega, by omega⟩⟩, fun h5 g1 g2 g3 => ?_⟩
      have ef5 : mi_f h5 13960 = 0 := (me_f (c := 13960) g3 r1 rfl rfl).trans ef4
      have ea : mi_f h5 14000 = mi_f h4 14000 := me_f (c := 14000) g3 r1 rfl rfl
      have := r3.2.1 (by omega) (by omega)
      refine ⟨rfl, g1, (F4.wide (fun c hc => ab_swr_ok (by decide) hc)).trans (g3.wide (fun c hc => ab_swr_ok (by decide) hc)), by omega, fun _ => ⟨by omega, rs_word I4 r1 g3 (fun i hi => by rw [g2, if_neg hi]) ?_⟩⟩
      rw [e63, me_a (k := 119) F4 hS0 rfl rfl]
      exact hs
  · intro b c
    refine ⟨⟨by omega, by omega⟩, fun h3 g1 g2 g3 => ?_⟩
    have F3 : ab_Fr sn_W h1 h3 := q2.trans (g3.wide (fun c hc => ab_swr_ok (by decide) hc))
    have ef3 : mi_f h3 13960 = 0 := (me_f (c := 13960) g3 q1 rfl rfl).trans ef2
    exact ⟨rfl, g1, F3.wide (fun c hc => ab_swr_ok (by decide) hc), by omega, fun _ => ⟨by omega, rs_fr hI hS0 F3 (by decide)⟩⟩
/-- a unit is put -/
theorem rs_put {u : Int} (hI : rs_I h Y z q) (hS : ab_Sh sx_sk h) (hu : rd_loose (mi_a h) Y z u) (hF : ab_Fr pu_W h h') (hp : pu_R u h h') : rs_I h' Y z q ∧ 0 ≤ mi_a h' 150 (mi_f h' 14003).toNat ∧ (mi_a h 151 (mi_f h 14003).toNat = 0 → 0 ≤ mi_a h' 149 (mi_f h' 14003).toNat ∧ mi_a h' 124 (mi_a h' 149 (mi_f h' 14003).toNat).toNat < 0) := by
  have b3 := me_fb (c := 14003) hS rfl
  have L := rs_lev hI hS
  obtain ⟨⟨i1, i2, i3, i4, i5, i6, i7, i9⟩, i10, i11⟩ := hI
  obtain ⟨p3, p4, p5, p6, p7, p8⟩ := hp
  have e61 : mi_f h' 13961 = mi_f h 13961 := me_f (c := 13961) hF hS rfl rfl
  have e63 : mi_f h' 13963 = mi_f h 13963 := me_f (c := 13963) hF hS rfl rfl
  have e64 : mi_f h' 13964 = mi_f h 13964 := me_f (c := 13964) hF hS rfl rfl
  have e65 : mi_f h' 13965 = mi_f h 13965 := me_f (c := 13965) hF hS rfl rfl
  have e3 : mi_f h' 14003 = mi_f h 14003 := me_f (c := 14003) hF hS rfl rfl
  have u0 := hu.1
  have u4 := hu.2.2.2.2.1
  have PP := rd_put (g' := mi_a h') i1 (by omega) hu (by rw [i10]; have := L.2.2.1; omega) (me_as _ hF hS (by decide)) (fun i => by rw [i10]; exact p3 i) (fun i => by rw [i10]; exact p4 i) (fun i => by rw [i10]; exact p5 i) (fun i => by rw [i10]; exact p6 i) (fun i => by rw [i10]; exact p7 i) (fun i => by rw [i10]; exact p8 i)
  refine ⟨⟨⟨PP, by omega, by omega, by omega, by omega, by omega, rs_Rt i7 hF hS rfl (fun _ x => x) (rs_Pf i7 hF hS rfl), fun f x0 x1 => ?_⟩, by omega, ?_⟩, ?_, fun cs => ?_⟩
  · rw [me_a (k := 130) hF hS rfl rfl]
    exact i9 f x0 (by omega)
  · rw [me_a (k := 146) hF hS rfl rfl]
    exact i11
  · rw [p7, e3, if_pos rfl]
    exact u0
  · have x : mi_a h' 149 (mi_f h' 14003).toNat = u := by rw [p6, e3, if_pos ⟨cs, rfl⟩]
    rw [x, p3, if_neg (fun y => y.1 cs)]
    exact ⟨u0, u4⟩
/-- an alternative begins -/
theorem rs_begin (hI : rs_I h Y z 1) (hS : ab_Sh sx_sk h) (hc : mi_a h 130 (mi_a h 146 (mi_f h 14003).toNat).toNat ≠ 6) (hF : ab_Fr bg_W h h') (hp : bg_R h h') : ∃ z', rs_I h' Y z' 0 := by
  have b3 := me_fb (c := 14003) hS rfl
  have bU := me_fb (c := 13963) hS rfl
  have bR := me_fb (c := 13961) hS rfl
  obtain ⟨-, ⟨l1, l2, l3⟩, -⟩ := rs_lev hI hS
  obtain ⟨⟨i1, i2, i3, i4, i5, i6, i7, i9⟩, i10, i11⟩ := hI
  obtain ⟨t3, t4, t5, t6, t7, t8, t9, t10, t11⟩ := hp
  have e61 : mi_f h' 13961 = mi_f h 13961 := me_f (c := 13961) hF hS rfl rfl
  have e63 : mi_f h' 13963 = mi_f h 13963 := me_f (c := 13963) hF hS rfl rfl
  have e65 : mi_f h' 13965 = mi_f h 13965 := me_f (c := 13965) hF hS rfl rfl
  have e3 : mi_f h' 14003 = mi_f h 14003 := me_f (c := 14003) hF hS rfl rfl
  have BG := rd_begin (g' := mi_a h') (rd_I_J i1) (by omega) (by omega) (me_as [115, 119, 120, 124, 125, 146, 148] hF hS (by decide)) (fun i => by rw [i4]; exact t4 i) (fun i => by rw [i4, i10]; exact t5 i) (fun i => by rw [i4, i10]; exact t6 i) (fun i => by rw [i10]; exact t7 i) (fun i => by rw [i4, i10]; exact t8 i) (fun i => by rw [i10]; exact t9 i) (fun i => by rw [i10]; exact t10 i) (fun i => by rw [i10]; exact t11 i)
  refine ⟨_, ⟨BG, by omega, by omega, ?_, by omega, by omega, rs_Rt i7 hF hS rfl (fun _ x => x) (rs_Pf i7 hF hS rfl), fun f x0 x1 => ?_⟩, ?_, ?_⟩
  · show rd_a z + 1 = _
    omega
  · rw [t7]
    have y := i9 f x0 (by omega)
    by_cases c : f.toNat = (mi_a h 146 (mi_f h 14003).toNat).toNat
    · rw [if_pos c]
      rw [← c] at hc
      omega
    · rw [if_neg c]
      exact y
  · show rd_k z = _
    omega
  · rw [me_a (k := 146) hF hS rfl rfl]
    exact i11
/-- a pair is announced -/
theorem rs_swap (hI : rs_I h Y z 1) (hS : ab_Sh sx_sk h) (hF : ab_Fr [(19328, 19329)] h h') (h151 : ∀ i : Nat, i ≠ (mi_f h 14003).toNat → mi_a h' 151 i = mi_a h 151 i) (hl : 0 ≤ mi_a h 149 (mi_f h 14003).toNat) (hm : mi_a h 124 (mi_a h 149 (mi_f h 14003).toNat).toNat < 0) : rs_I h' Y z 0 := by
  obtain ⟨⟨i1, i2, i3, i4, i5, i6, i7, i9⟩, i10, i11⟩ := hI
  have e61 : mi_f h' 13961 = mi_f h 13961 := me_f (c := 13961) hF hS rfl rfl
  have e63 : mi_f h' 13963 = mi_f h 13963 := me_f (c := 13963) hF hS rfl rfl
  have e64 : mi_f h' 13964 = mi_f h 13964 := me_f (c := 13964) hF hS rfl rfl
  have e65 : mi_f h' 13965 = mi_f h 13965 := me_f (c := 13965) hF hS rfl rfl
  have e3 : mi_f h' 14003 = mi_f h 14003 := me_f (c := 14003) hF hS rfl rfl
  refine ⟨⟨rd_swap i1 (me_as _ hF hS (by decide)) (fun i hi => h151 i (by rw [i10] at hi; exact hi)) (by rw [i10]; exact hl) (by rw [i10]; exact hm), by omega, by omega, by omega, by omega, by omega, rs_Rt i7 hF hS rfl (fun _ x => x) (rs_Pf i7 hF hS rfl), fun f x0 x1 => ?_⟩, by omega, ?_⟩
  · rw [me_a (k := 130) hF hS rfl rfl]
    exact i9 f x0 (by omega)
  · rw [me_a (k := 146) hF hS rfl rfl]
    exact i11
/-- a level closes -/
theorem rs_close (hI : rs_I h Y z q) (hS : ab_Sh sx_sk h) (hk : 0 < mi_f h 14003) (hF : ab_Fr [(14003, 14004)] h h') (h3 : mi_f h' 14003 = mi_f h 14003 - 1) : rs_I h' (rd_yk (mi_a h) Y z) (rd_zk z) q ∧ rd_loose (mi_a h') (rd_yk (mi_a h) Y z) (rd_zk z) (mi_a h 148 (mi_f h 14003).toNat) := by
  obtain ⟨⟨i1, i2, i3, i4, i5, i6, i7, i9⟩, i10, i11⟩ := hI
  have e61 : mi_f h' 13961 = mi_f h 13961 := me_f (c := 13961) hF hS rfl rfl
  have e63 : mi_f h' 13963 = mi_f h 13963 := me_f (c := 13963) hF hS rfl rfl
  have e64 : mi_f h' 13964 = mi_f h 13964 := me_f (c := 13964) hF hS rfl rfl
  have e65 : mi_f h' 13965 = mi_f h 13965 := me_f (c := 13965) hF hS rfl rfl
  obtain ⟨c1, c2⟩ := rd_close i1 (by omega)
  obtain ⟨x1, x2, x3, x4, x5, x6, x7, x8⟩ := i1.2.2.2.2.2 (rd_k z) (by omega) (Int.le_refl _)
  have sm := me_as [119, 120, 124, 125, 126, 128, 129, 130, 146, 147, 148, 149, 150, 151] hF hS (by decide)
  have nn := i1.1
  refine ⟨⟨⟨rd_cg c1 sm, ?_, ?_, ?_, by omega, by omega, rs_Rt i7 hF hS rfl (fun f hf => ?_) (rs_Pf i7 hF hS rfl), fun f y0 y1 => ?_⟩, ?_, ?_⟩, ?_⟩
  · show wk_u Y = _
    omega
  · show wk_f Y = _
    omega
  · show rd_a z = _
    omega
  · obtain ⟨y1, y2, y3⟩ := hf
    refine ⟨y1, y2, ?_⟩
    show (if f = mi_a h 146 (rd_k z).toNat then wk_u Y else wk_x Y f) - wk_b Y f ≤ 61
    by_cases c : f = mi_a h 146 (rd_k z).toNat
    · rw [if_pos c, c, x7]
      omega
    · rw [if_neg c]
      exact y3
  · rw [sm 130 (by decide)]
    exact i9 f y0 (by omega)
  · show rd_k z - 1 = _
    omega
  · rw [sm 146 (by decide)]
    exact i11
  · rw [i10] at c2
    obtain ⟨y1, y2, y3, y4, y5, y6, y7, y8⟩ := c2
    unfold rd_loose
    simp only [sm 124 (by decide), sm 125 (by decide), sm 146 (by decide), sm 149 (by decide)]
    exact ⟨y1, y2, y3, y4, y5, y6, y7, y8⟩
end PLU
