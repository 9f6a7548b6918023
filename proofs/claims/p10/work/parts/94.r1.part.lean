/-! reading: part -/
theorem me_as {h h' : sm_H} {wr : List (Nat × Nat)} (l : List Nat) (hF : ab_Fr wr h h') (hS : ab_Sh sx_sk h) (hl : l.all (fun j => (mx_isA sx_sk j || mx_isB sx_sk j) && !ab_in wr (j * 128)) = true) : ∀ j, j ∈ l → ∀ i, mi_a h' j i = mi_a h j i := fun j hj i => by
  have := List.all_eq_true.mp hl j hj
  rw [Bool.and_eq_true, Bool.not_eq_true'] at this
  exact me_a hF hS this.1 this.2
theorem rs_Rt {h h' : sm_H} {Y Y' : wk_Y} {wr : List (Nat × Nat)} (hR : rs_R h Y) (hF : ab_Fr wr h h') (hS : ab_Sh sx_sk h) (hw : (ab_in wr 13961 || ab_in wr 14592 || ab_in wr 14720) = false) (hY : ∀ f, wk_Lrule Y f → wk_Lrule Y' f) (hP : rs_P h') : rs_R h' Y' := by
  simp only [Bool.or_eq_false_iff] at hw
  refine ⟨fun r h0 h1 => ?_, fun n hn => ?_, hP⟩
  · rw [me_f (c := 13961) hF hS rfl hw.1.1] at h1
    rw [me_a (k := 114) hF hS rfl hw.1.2]
    exact hY _ (hR.1 r h0 h1)
  · rw [me_f (c := 13961) hF hS rfl hw.1.1, me_a (k := 115) hF hS rfl hw.2]
    exact hR.2.1 n hn
theorem rs_Pf {h h' : sm_H} {Y : wk_Y} {wr : List (Nat × Nat)} (hR : rs_R h Y) (hF : ab_Fr wr h h') (hS : ab_Sh sx_sk h) (hw : (ab_in wr 13963 || ab_in wr 15488) = false) : rs_P h' := by
  simp only [Bool.or_eq_false_iff] at hw
  intro u h0 h1
  rw [me_f (c := 13963) hF hS rfl hw.1] at h1
  rw [me_a (k := 121) hF hS rfl hw.2]
  exact hR.2.2 u h0 h1
/-- a unit more -/
theorem rs_P1 {h0 h h' : sm_H} {Y : wk_Y} {wr : List (Nat × Nat)} (hR : rs_R h0 Y) (h121 : ∀ i, mi_a h 121 i = if i = (mi_f h0 13963).toNat then mi_f h0 14002 else mi_a h0 121 i) (hp : 0 ≤ mi_f h0 14002 ∧ mi_f h0 14002 ≤ 241) (hF : ab_Fr wr h h') (hS : ab_Sh sx_sk h) (hw : ab_in wr 15488 = false) (hU : mi_f h' 13963 = mi_f h0 13963 + 1) : rs_P h' := by
  intro u x0 x1
  rw [me_a (k := 121) hF hS rfl hw, h121]
  by_cases c : u.toNat = (mi_f h0 13963).toNat
  · rw [if_pos c]
    exact hp
  · rw [if_neg c]
    exact hR.2.2 u x0 (by omega)
def pt_V : List (Nat × Nat) := [(13960, 13961), (13962, 13964), (14976, 14977), (15104, 15105), (15232, 15233), (15360, 15361), (15488, 15489), (15616, 15617), (15872, 15873), (16000, 16001)]
def pt_W : List (Nat × Nat) := [(13960, 13961), (13962, 13966), (14003, 14004), (14976, 14977), (15104, 15105), (15232, 15233), (15360, 15361), (15488, 15489), (15616, 15617), (15872, 15873), (16000, 16001), (16128, 16129), (16256, 16257), (16384, 16385), (16512, 16513), (16640, 16641), (18688, 18689), (18816, 18817), (18944, 18945), (19072, 19073), (19200, 19201), (19328, 19329)]
/-- the new unit has been made, of sort s -/
def pt_S (h0 h : sm_H) (s : Int) : Prop :=
  ab_Sh sx_sk h ∧ ab_Fr pt_V h0 h ∧ mi_f h 13963 = mi_f h0 13963 + 1 ∧
  (∀ i, mi_a h 119 i = if i = (mi_f h0 13963).toNat then s else mi_a h0 119 i) ∧
  (∀ i, i ≠ (mi_f h0 13963).toNat → mi_a h 120 i = mi_a h0 120 i) ∧
  (∀ i, mi_a h 124 i = if i = (mi_f h0 13963).toNat then -1 else mi_a h0 124 i) ∧
  (∀ i, mi_a h 125 i = if i = (mi_f h0 13963).toNat then -1 else mi_a h0 125 i) ∧
  0 ≤ mi_f h 13960 ∧
  (s = 9 → 0 ≤ mi_a h 120 (mi_f h0 13963).toNat ∧ mi_a h 120 (mi_f h0 13963).toNat < 26) ∧
  (s = 8 → 0 ≤ mi_a h 120 (mi_f h0 13963).toNat ∧ (mi_a h 120 (mi_f h0 13963).toNat < 20 ∨ 0 < mi_f h 13960)) ∧
  (∀ i, mi_a h 121 i = if i = (mi_f h0 13963).toNat then mi_f h0 14002 else mi_a h0 121 i)
def pt_Q (h0 : sm_H) (w : Option mi_V) (h' : sm_H) : Prop :=
  w = none ∧ ab_Sh sx_sk h' ∧ ab_Fr pt_W h0 h' ∧ 0 ≤ mi_f h' 13960 ∧ (mi_f h' 13960 = 0 →
    (mi_f h0 14001 = 40 → ∃ Y z, rs_I h' Y z 0) ∧
    (mi_f h0 14001 ≠ 40 → 1 ≤ mi_f h' 13963 ∧ 0 ≤ mi_a h' 150 (mi_f h' 14003).toNat ∧ (mi_a h0 151 (mi_f h0 14003).toNat = 0 → 0 ≤ mi_a h' 149 (mi_f h' 14003).toNat ∧ mi_a h' 124 (mi_a h' 149 (mi_f h' 14003).toNat).toNat < 0) ∧ (mi_f h0 14001 = 1 → mi_a h' 119 (mi_f h' 13963 - 1).toNat ≤ 7) ∧ ∃ Y z, rs_I h' Y z 1))
section PTP
variable {d : Nat} {h0 h : sm_H} {Y : wk_Y} {z : rd_Z} {q s : Int}
theorem pt_put (hI : rs_I h0 Y z q) (q0 : 0 ≤ q) (hS0 : ab_Sh sx_sk h0) (hU : mi_f h0 13963 < 60) (hs : pt_S h0 h s) (s10 : s ≠ 10) (ht : mi_f h0 14001 ≠ 40) (ht1 : mi_f h0 14001 = 1 → s ≤ 7) (hp : 0 ≤ mi_f h0 14002 ∧ mi_f h0 14002 ≤ 241) : me_E (d + 9) 190 196 [some (.inr (.inr 109)), some (.inl (mi_f h0 13963))] [] h (pt_Q h0) := by
  have bU := me_fb (c := 13963) hS0 rfl
  have bR := me_fb (c := 13961) hS0 rfl
  obtain ⟨s1, s2, s3, s4, s5, s6, s7, s8, s9, s11, s12⟩ := hs
  have ok : mi_in (mi_f h0 13963) := ⟨by omega, by omega⟩
  obtain ⟨⟨k0, k1⟩, ⟨f0, f1, f2⟩, c1, ⟨a0, a1⟩, l1, l2, l3, hb⟩ := rs_lev hI hS0
  have e3 : mi_f h 14003 = mi_f h0 14003 := me_f (c := 14003) s2 hS0 rfl rfl
  have sm := me_as [126, 128, 129, 130, 146, 147, 148, 149, 150, 151] s2 hS0 (by decide)
  have e147 := sm 147 (by decide)
  have e149 := sm 149 (by decide)
  have e151 := sm 151 (by decide)
  have eU : mi_a h 119 (mi_f h0 13963).toNat = s := by rw [s4, if_pos rfl]
  refine mt_ptG s1 ok ?_ ?_
  · intro b c
    rw [eU] at c
    exact absurd c s10
  intro c
  refine ⟨⟨by omega, by omega⟩, fun h1 g1 g2 => ?_⟩
  have e := me_nil g2
  subst e
  refine ⟨_, me_put (d := d + 8) s1 (by omega) hU (by omega) (by rw [e3, e149, e151]; exact l1) (by rw [e3, e149]; exact l2) (by rw [e3, e147]; exact ⟨a0, a1⟩), fun w h2 ow hq => ?_⟩
  obtain ⟨rfl, p1, p2, p3, p4, p5, p6, p7, p8⟩ := hq
  refine mt_ptH p1 ok (fun h3 g3 g4 => ?_)
  have e := me_nil g4
  subst e
  have F : ab_Fr pt_W h0 h3 := (s2.wide (fun c hc => ab_swr_ok (by decide) hc)).trans (p2.wide (fun c hc => ab_swr_ok (by decide) hc))
  have ef : mi_f h3 13960 = mi_f h1 13960 := me_f (c := 13960) p2 s1 rfl rfl
  refine ⟨rfl, p1, F, by omega, fun hf => ⟨fun c => absurd c ht, fun _ => ?_⟩⟩
  rw [ef] at hf
  obtain ⟨⟨i1, i2, i3, i4, i5, i6, i7, i9⟩, i10, i11⟩ := hI
  have e33 : mi_f h3 14003 = mi_f h0 14003 := (me_f (c := 14003) p2 s1 rfl rfl).trans e3
  have e63 : mi_f h3 13963 = mi_f h0 13963 + 1 := (me_f (c := 13963) p2 s1 rfl rfl).trans s3
  have e61 : mi_f h3 13961 = mi_f h0 13961 := me_f (c := 13961) F hS0 rfl rfl
  have e64 : mi_f h3 13964 = mi_f h0 13964 := (me_f (c := 13964) p2 s1 rfl rfl).trans (me_f (c := 13964) s2 hS0 rfl rfl)
  have e65 : mi_f h3 13965 = mi_f h0 13965 := (me_f (c := 13965) p2 s1 rfl rfl).trans (me_f (c := 13965) s2 hS0 rfl rfl)
  have g119 : ∀ i, mi_a h3 119 i = mi_a h1 119 i := fun i => me_a (k := 119) p2 s1 rfl rfl
  have g130 : ∀ i, mi_a h3 130 i = mi_a h0 130 i := fun i => (me_a (k := 130) p2 s1 rfl rfl).trans (sm 130 (by decide) i)
  have g146 : ∀ i, mi_a h3 146 i = mi_a h0 146 i := fun i => (me_a (k := 146) p2 s1 rfl rfl).trans (sm 146 (by decide) i)
  have ek : rd_k z = mi_f h1 14003 := i10.trans e3.symm
  have PL := rd_plain (g' := mi_a h1) i1 (by omega) (by rw [i2]; exact hU) sm (fun i hi => by rw [i2] at hi; rw [s4, if_neg hi]) (fun i hi => by rw [i2] at hi; exact s5 i hi) (fun i => by rw [i2]; exact s6 i) (fun i => by rw [i2]; exact s7 i) (by rw [i2, eU]; exact s10) (fun c => by rw [i2] at c ⊢; rw [eU] at c; exact s9 c) (fun c => by
      rw [i2] at c ⊢
      rw [eU] at c
      obtain ⟨x1, x2⟩ := s11 c
      exact ⟨x1, by omega⟩) (by rw [i10]; exact hb)
  have hc : 0 < mi_a h1 130 (mi_a h1 146 (rd_k z).toNat).toNat := by
    rw [sm 146 (by decide), sm 130 (by decide), i10]
    omega
  have PP := rd_put (g' := mi_a h3) PL.1 (by omega) PL.2 hc (me_as [119, 120, 128, 129, 130, 146, 147, 148] p2 s1 (by decide)) (fun i => by rw [ek, i2]; exact p3 i) (fun i => by rw [ek, i2]; exact p4 i) (fun i => by rw [ek, i2]; exact p5 i) (fun i => by rw [ek, i2]; exact p6 i) (fun i => by rw [ek, i2]; exact p7 i) (fun i => by rw [ek]; exact p8 i)
  refine ⟨by omega, ?_, fun cs => ?_, fun c1 => ?_, _, z, ⟨PP, ?_, ?_, i4.trans e64.symm, by omega, by omega, rs_Rt i7 F hS0 rfl (fun f hf => hf) (rs_P1 i7 s12 hp p2 s1 rfl e63), fun f x0 x1 => ?_⟩, i10.trans e33.symm, ?_⟩
  · rw [p7, e33, e3, if_pos rfl]
    omega
  · rw [← e3, ← e151] at cs
    have x : mi_a h3 149 (mi_f h3 14003).toNat = mi_f h0 13963 := by rw [p6, e33, e3, if_pos ⟨by rw [← e3]; exact cs, rfl⟩]
    rw [x, p3, if_neg (fun y => y.1 cs), s6, if_pos rfl]
    omega
  · rw [e63, g119, show mi_f h0 13963 + 1 - 1 = mi_f h0 13963 by omega, eU]
    exact ht1 c1
  · show wk_u Y + 1 = _
    rw [i2, e63]
  · show wk_f Y = _
    rw [i3, e65]
  · rw [g130]
    rw [e65] at x1
    exact i9 f x0 x1
  · show wk_b Y (mi_a h3 146 0) < wk_u Y + 1
    rw [g146]
    omega
theorem pt_grp (hI : rs_I h0 Y z q) (q0 : 0 ≤ q) (hS0 : ab_Sh sx_sk h0) (hU : mi_f h0 13963 < 60) (hs : pt_S h0 h 10) (ht : mi_f h0 14001 = 40) (hk4 : mi_f h0 14003 ≠ 4) (hp : 0 ≤ mi_f h0 14002 ∧ mi_f h0 14002 ≤ 241) : me_E (d + 9) 190 196 [some (.inr (.inr 109)), some (.inl (mi_f h0 13963))] [] h (pt_Q h0) := by
  have bU := me_fb (c := 13963) hS0 rfl
  have bR := me_fb (c := 13961) hS0 rfl
  have bA := me_fb (c := 13964) hS0 rfl
  have bF := me_fb (c := 13965) hS0 rfl
  obtain ⟨s1, s2, s3, s4, s5, s6, s7, s8, s9, s11, s12⟩ := hs
  have ok : mi_in (mi_f h0 13963) := ⟨by omega, by omega⟩
  obtain ⟨⟨k0, k1⟩, ⟨f0, f1, f2⟩, c1, ⟨a0, a1⟩, l1, l2, l3, hb⟩ := rs_lev hI hS0
  obtain ⟨⟨i1, i2, i3, i4, i5, i6, i7, i9⟩, i10, i11⟩ := hI
  have e3 : mi_f h 14003 = mi_f h0 14003 := me_f (c := 14003) s2 hS0 rfl rfl
  have eF : mi_f h 13965 = mi_f h0 13965 := me_f (c := 13965) s2 hS0 rfl rfl
  have eA : mi_f h 13964 = mi_f h0 13964 := me_f (c := 13964) s2 hS0 rfl rfl
  have eU : mi_a h 119 (mi_f h0 13963).toNat = 10 := by rw [s4, if_pos rfl]
  refine mt_ptG s1 ok ?_ ?_
  rotate_left
  · intro c
    exact absurd eU c
  intro b c
  refine ⟨⟨⟨by omega, by omega⟩, ⟨by omega, by omega⟩, ⟨by omega, by omega⟩, ⟨by omega, by omega⟩, ⟨by omega, by omega⟩⟩, fun h1 g1 g2 g3 g4 => ?_⟩
  have eF1 : mi_f h1 13965 = mi_f h0 13965 := (me_f (c := 13965) g4 s1 rfl rfl).trans eF
  refine ⟨_, me_newForm (d := d + 8) g1 (by omega), fun w h2 ow hq => ?_⟩
  obtain ⟨rfl, p1, p2, p3, p4, p5⟩ := hq
  have e32 : mi_f h2 14003 = mi_f h0 14003 + 1 := by rw [me_f (c := 14003) p2 g1 rfl rfl, g2, e3]
  refine mt_ptI (zz := mi_f h1 13965) (zv := mi_f h 14003 + 1) p1 ok ⟨by omega, by omega⟩ ⟨by omega, by omega⟩ ?_
  intro b2
  refine ⟨⟨⟨by omega, by omega⟩, ⟨by omega, by omega⟩, ⟨by omega, by omega⟩, ⟨by omega, by omega⟩⟩, fun h3 r1 r2 r3 r4 => ?_⟩
  have e33 : mi_f h3 14003 = mi_f h0 14003 + 1 := by rw [me_f (c := 14003) r4 p1 rfl rfl, e32]
  have eA3 : mi_f h3 13964 = mi_f h0 13964 := by rw [me_f (c := 13964) r4 p1 rfl rfl, me_f (c := 13964) p2 g1 rfl rfl, me_f (c := 13964) g4 s1 rfl rfl, eA]
  have eF3 : mi_f h3 13965 = mi_f h0 13965 + 1 := by rw [me_f (c := 13965) r4 p1 rfl rfl, p3, eF1]
  have eU3 : mi_f h3 13963 = mi_f h0 13963 + 1 := by rw [me_f (c := 13963) r4 p1 rfl rfl, me_f (c := 13963) p2 g1 rfl rfl, me_f (c := 13963) g4 s1 rfl rfl, s3]
  have top : mi_a h3 146 (mi_f h3 14003).toNat = mi_f h0 13965 := by rw [r3, e33, e3, if_pos rfl, eF1]
  have G130 : ∀ i, mi_a h3 130 i = if i = (mi_f h0 13965).toNat then 0 else mi_a h0 130 i := fun i => by rw [me_a (k := 130) r4 p1 rfl rfl, p5, eF1, me_a (k := 130) g4 s1 rfl rfl, me_a (k := 130) s2 hS0 rfl rfl]
  have G129 : ∀ i, mi_a h3 129 i = if i = (mi_f h0 13965).toNat then -1 else mi_a h0 129 i := fun i => by rw [me_a (k := 129) r4 p1 rfl rfl, p4, eF1, me_a (k := 129) g4 s1 rfl rfl, me_a (k := 129) s2 hS0 rfl rfl]
  have ch : mi_a h3 130 (mi_a h3 146 (mi_f h3 14003).toNat).toNat = 0 := by rw [top, G130, if_pos rfl]
  refine ⟨_, me_begin (d := d + 8) (zp := 0) r1 ⟨by decide, by decide⟩ (by omega) (by omega) (by rw [top]; omega) (by rw [top]; omega) (by rw [ch]; decide) (fun c => absurd ch c), fun w h4 ow hq => ?_⟩
  obtain ⟨rfl, t1, t2, t3, t4, t5, t6, t7, t8, t9, t10, t11⟩ := hq
  refine mt_ptJ t1 ok (fun h5 u1 u2 => ?_)
  have e := me_nil u2
  subst e
  have F3 : ab_Fr pt_W h0 h3 := (((s2.wide (fun c hc => ab_swr_ok (by decide) hc)).trans (g4.wide (fun c hc => ab_swr_ok (by decide) hc))).trans (p2.wide (fun c hc => ab_swr_ok (by decide) hc))).trans (r4.wide (fun c hc => ab_swr_ok (by decide) hc))
  have F : ab_Fr pt_W h0 h5 := F3.trans (t2.wide (fun c hc => ab_swr_ok (by decide) hc))
  have FF : ab_Fr [(13964, 13966), (14003, 14004), (15360, 15361), (16128, 16641), (18688, 19329)] h h5 := (((g4.wide (fun c hc => ab_swr_ok (by decide) hc)).trans (p2.wide (fun c hc => ab_swr_ok (by decide) hc))).trans (r4.wide (fun c hc => ab_swr_ok (by decide) hc))).trans (t2.wide (fun c hc => ab_swr_ok (by decide) hc))
  have ef : mi_f h5 13960 = mi_f h 13960 := by rw [me_f (c := 13960) t2 r1 rfl rfl, me_f (c := 13960) r4 p1 rfl rfl, me_f (c := 13960) p2 g1 rfl rfl, me_f (c := 13960) g4 s1 rfl rfl]
  refine ⟨rfl, t1, F, by omega, fun hf => ⟨fun _ => ?_, fun c => absurd ht c⟩⟩
  have sA : ∀ j, j ∈ [126, 128, 147, 149, 150, 151] → ∀ i, mi_a h3 j i = mi_a h0 j i := fun j hj i => by
    rw [me_as [126, 128, 147, 149, 150, 151] r4 p1 (by decide) j hj, me_as [126, 128, 147, 149, 150, 151] p2 g1 (by decide) j hj, me_as [126, 128, 147, 149, 150, 151] g4 s1 (by decide) j hj, me_as [126, 128, 147, 149, 150, 151] s2 hS0 (by decide) j hj]
  have e119 : ∀ i, mi_a h3 119 i = mi_a h 119 i := fun i => by rw [me_a (k := 119) r4 p1 rfl rfl, me_a (k := 119) p2 g1 rfl rfl, me_a (k := 119) g4 s1 rfl rfl]
  have e124 : ∀ i, mi_a h3 124 i = mi_a h 124 i := fun i => by rw [me_a (k := 124) r4 p1 rfl rfl, me_a (k := 124) p2 g1 rfl rfl, me_a (k := 124) g4 s1 rfl rfl]
  have e125 : ∀ i, mi_a h3 125 i = mi_a h 125 i := fun i => by rw [me_a (k := 125) r4 p1 rfl rfl, me_a (k := 125) p2 g1 rfl rfl, me_a (k := 125) g4 s1 rfl rfl]
  have e120 : ∀ i, mi_a h2 120 i = mi_a h 120 i := fun i => by rw [me_a (k := 120) p2 g1 rfl rfl, me_a (k := 120) g4 s1 rfl rfl]
  have G120 : ∀ i, mi_a h3 120 i = if i = (mi_f h0 13963).toNat then mi_f h0 13965 else mi_a h0 120 i := fun i => by
    rw [r2]
    by_cases c : i = (mi_f h0 13963).toNat
    · rw [if_pos c, if_pos c, e32, e3, if_pos rfl, eF1]
    · rw [if_neg c, if_neg c, e120, s5 i c]
  have G146 : ∀ i, mi_a h3 146 i = if i = (mi_f h0 14003 + 1).toNat then mi_f h0 13965 else mi_a h0 146 i := fun i => by
    rw [r3, e3, eF1, me_a (k := 146) p2 g1 rfl rfl, me_a (k := 146) g4 s1 rfl rfl, me_a (k := 146) s2 hS0 rfl rfl]
  have G148 : ∀ i, mi_a h3 148 i = if i = (mi_f h0 14003 + 1).toNat then mi_f h0 13963 else mi_a h0 148 i := fun i => by
    rw [me_a (k := 148) r4 p1 rfl rfl, me_a (k := 148) p2 g1 rfl rfl, g3, e3, me_a (k := 148) s2 hS0 rfl rfl]
  have GR := rd_group (g' := mi_a h3) i1 (by omega) (by omega) (by omega) (by omega) sA (fun i => by rw [i2, e119, s4]) (fun i => by rw [i2, i3]; exact G120 i) (fun i => by rw [i2, e124, s6]) (fun i => by rw [i2, e125, s7]) (fun i => by rw [i3]; exact G129 i) (fun i => by rw [i3]; exact G130 i) (fun i => by rw [i3, i10]; exact G146 i) (fun i => by rw [i2, i10]; exact G148 i) (by rw [i10]; exact hb)
  have ek : rd_k (rd_zg z) = mi_f h3 14003 := by
    show rd_k z + 1 = _
    omega
  have ea : rd_a (rd_zg z) = mi_f h3 13964 := by
    show rd_a z = _
    omega
  have BG := rd_begin (g' := mi_a h5) GR (by omega) (by omega) (me_as [115, 119, 120, 124, 125, 146, 148] t2 r1 (by decide)) (fun i => by rw [ea]; exact t4 i) (fun i => by rw [ea, ek]; exact t5 i) (fun i => by rw [ea, ek]; exact t6 i) (fun i => by rw [ek]; exact t7 i) (fun i => by rw [ea, ek]; exact t8 i) (fun i => by rw [ek]; exact t9 i) (fun i => by rw [ek]; exact t10 i) (fun i => by rw [ek]; exact t11 i)
  have e61 : mi_f h5 13961 = mi_f h0 13961 := me_f (c := 13961) F hS0 rfl rfl
  have e63 : mi_f h5 13963 = mi_f h0 13963 + 1 := (me_f (c := 13963) t2 r1 rfl rfl).trans eU3
  have e65 : mi_f h5 13965 = mi_f h0 13965 + 1 := (me_f (c := 13965) t2 r1 rfl rfl).trans eF3
  have e53 : mi_f h5 14003 = mi_f h0 14003 + 1 := (me_f (c := 14003) t2 r1 rfl rfl).trans e33
  have z0 := (i1.2.2.2.2.1 0 (Int.le_refl _) (by omega)).1
  refine ⟨rd_yg (mi_a h0) Y z, rd_zb (mi_a h3) (rd_zg z), ⟨BG, ?_, ?_, ?_, by omega, by omega, rs_Rt i7 F hS0 rfl (fun f hf => ?_) (rs_P1 i7 s12 hp FF s1 rfl e63), fun f x0 x1 => ?_⟩, ?_, ?_⟩
  · show wk_u Y + 1 = _
    omega
  · show wk_f Y + 1 = _
    omega
  · show rd_a (rd_zg z) + 1 = _
    omega
  · obtain ⟨y1, y2, y3⟩ := hf
    refine ⟨y1, ?_, ?_⟩
    · show f < wk_f Y + 1
      omega
    · show (if f = wk_f Y then 60 else wk_x Y f) - (if f = wk_f Y then wk_u Y else wk_b Y f) ≤ 61
      rw [if_neg (by omega), if_neg (by omega)]
      exact y3
  · rw [t7, top, G130]
    rw [e65] at x1
    by_cases c : f.toNat = (mi_f h0 13965).toNat
    · rw [if_pos c, if_pos c]
      decide
    · rw [if_neg c, if_neg c]
      exact i9 f x0 (by omega)
  · show rd_k (rd_zg z) = _
    omega
  · show (if mi_a h5 146 0 = wk_f Y then wk_u Y else wk_b Y (mi_a h5 146 0)) < wk_u Y + 1
    have z1 := z0.2.1
    have e0 : mi_a h5 146 0 = mi_a h0 146 0 := by rw [me_a (k := 146) t2 r1 rfl rfl, G146, if_neg (by omega)]
    rw [e0, if_neg (by show ¬ mi_a h0 146 0 = wk_f Y; have z1 : mi_a h0 146 0 < wk_f Y := z1; omega)]
    omega
end PTP
