/-! reading: part -/
theorem me_as {h h' : sm_H} {wr : List (Nat × Nat)} (l : List Nat) (hF : ab_Fr wr h h') (hS : ab_Sh sx_sk h) (hl : l.all (fun j => (mx_isA sx_sk j || mx_isB sx_sk j) && !ab_in wr (j * 128)) = true) : ∀ j, j ∈ l → ∀ i, mi_a h' j i = mi_a h j i := fun j hj i => by
  have := List.all_eq_true.mp hl j hj
  rw [Bool.and_eq_true, Bool.not_eq_true'] at this
  exact me_a hF hS this.1 this.2
theorem rs_Rt {h h' : sm_H} {Y Y' : wk_Y} {wr : List (Nat × Nat)} (hR : rs_R h Y) (hF : ab_Fr wr h h') (hS : ab_Sh sx_sk h) (hw : (ab_in wr 13961 || ab_in wr 14592 || ab_in wr 14720) = false) (hY : ∀ f, wk_Lrule Y f → wk_Lrule Y' f) (hP : rs_P h') : rs_R h' Y' := by
  simp only [Bool.or_eq_false_iff] at hw
  refine ⟨fun r h0 h1 => ?_, fun n hn => ?_, hP⟩
  · rw [me_f (c := 13961) hF hS rfl hw.1.1] at h1
    rw [me_a (k := 114) hF hS rfl hw.1.2]
    exact hY _ (hR.1 r h0 h1)
  · rw [me_f (c := 13961) hF hS rfl hw.1.1, me_a (k := 115) hF hS rfl hw.2]
    exact hR.2.1 n hn
theorem rs_Pf {h h' : sm_H} {Y : wk_Y} {wr : List (Nat × Nat)} (hR : rs_R h Y) (hF : ab_Fr wr h h') (hS : ab_Sh sx_sk h) (hw : (ab_in wr 13963 || ab_in wr 15488) = false) : rs_P h' := by
  simp only [Bool.or_eq_false_iff] at hw
  intro u h0 h1
  rw [me_f (c := 13963) hF hS rfl hw.1] at h1
  rw [me_a (k := 121) hF hS rfl hw.2]
  exact hR.2.2 u h0 h1
/-- a unit more -/
theorem rs_P1 {h0 h h' : sm_H} {Y : wk_Y} {wr : List (Nat × Nat)} (hR : rs_R h0 Y) (h121 : ∀ i, mi_a h 121 i = if i = (mi_f h0 13963).toNat then mi_f h0 14002 else mi_a h0 121 i) (hp : 0 ≤ mi_f h0 14002 ∧ mi_f h0 14002 ≤ 241) (hF : ab_Fr wr h h') (hS : ab_Sh sx_sk h) (hw : ab_in wr 15488 = false) (hU : mi_f h' 13963 = mi_f h0 13963 + 1) : rs_P h' := by
  intro u x0 x1
  rw [me_a (k := 121) hF hS rfl hw, h121]
  by_cases c : u.toNat = (mi_f h0 13963).toNat
  · rw [if_pos c]
    exact hp
  · rw [if_neg c]
    exact hR.2.2 u x0 (by omega)
def pt_V : List (Nat × Nat) := [(13960, 13961), (13962, 13964), (14976, 14977), (15104, 15105), (15232, 15233), (15360, 15361), (15488, 15489), (15616, 15617), (15872, 15873), (16000, 16001)]
def pt_W : List (Nat × Nat) := [(13960, 13961), (13962, 13966), (14003, 14004), (14976, 14977), (15104, 15105), (15232, 15233), (15360, 15361), (15488, 15489), (15616, 15617), (15872, 15873), (16000, 16001), (16128, 16129), (16256, 16257), (16384, 16385), (16512, 16513), (16640, 16641), (18688, 18689), (18816, 18817), (18944, 18945), (19072, 19073), (19200, 19201), (19328, 19329)]
/-- the new unit has been made, of sort s -/
def pt_S (h0 h : sm_H) (s : Int) : Prop :=
  ab_Sh sx_sk h ∧ ab_Fr pt_V h0 h ∧ mi_f h 13963 = mi_f h0 13963 + 1 ∧
  (∀ i, mi_a h 119 i = if i = (mi_f h0 13963).toNat then s else mi_a h0 119 i) ∧
  (∀ i, i ≠ (mi_f h0 13963).toNat → mi_a h 120 i = mi_a h0 120 i) ∧
  (∀ i, mi_a h 124 i = if i = (mi_f h0 13963).toNat then -1 else mi_a h0 124 i) ∧
  (∀ i, mi_a h 125 i = if i = (mi_f h0 13963).toNat then -1 else mi_a h0 125 i) ∧
  0 ≤ mi_f h 13960 ∧
  (s = 9 → 0 ≤ mi_a h 120 (mi_f h0 13963).toNat ∧ mi_a h 120 (mi_f h0 13963).toNat < 26) ∧
  (s = 8 → 0 ≤ mi_a h 120 (mi_f h0 13963).toNat ∧ (mi_a h 120 (mi_f h0 13963).toNat < 20 ∨ 0 < mi_f h 13960)) ∧
  (∀ i, mi_a h 121 i = if i = (mi_f h0 13963).toNat then mi_f h0 14002 else mi_a h0 121 i)
def pt_Q (h0 : sm_H) (w : Option mi_V) (h' : sm_H) : Prop :=
  w = none ∧ ab_Sh sx_sk h' ∧ ab_Fr pt_W h0 h' ∧ 0 ≤ mi_f h' 13960 ∧ (mi_f h' 13960 = 0 →
    (mi_f h0 14001 = 40 → ∃ Y z, rs_I h' Y z 0) ∧
    (mi_f h0 14001 ≠ 40 → 1 ≤ mi_f h' 13963 ∧ 0 ≤ mi_a h' 150 (mi_f h' 14003).toNat ∧ (mi_a h0 151 (mi_f h0 14003).toNat = 0 → 0 ≤ mi_a h' 149 (mi_f h' 14003).toNat ∧ mi_a h' 124 (mi_a h' 149 (mi_f h' 14003).toNat).toNat < 0) ∧ (mi_f h0 14001 = 1 → mi_a h' 119 (mi_f h' 13963 - 1).toNat ≤ 7) ∧ ∃ Y z, rs_I h' Y z 1))
section PTP
variable {d : Nat} {h0 h : sm_H} {Y : wk_Y} {z : rd_Z} {q s : Int}
theorem pt_put (hI : rs_I h0 Y z q) (q0 : 0 ≤ q) (hS0 : ab_Sh sx_sk h0) (hU : mi_f h0 13963 < 60) (hs : pt_S h0 h s) (s10 : s ≠ 10) (ht : mi_f h0 14001 ≠ 40) (ht1 : mi_f h0 14001 = 1 → s ≤ 7) (hp : 0 ≤ mi_f h0 14002 ∧ mi_f h0 14002 ≤ 241) : me_E (d + 9) 190 196 [some (.inr (.inr 109)), some (.inl (mi_f h0 13963))] [] h (pt_Q h0) := by
  have bU := me_fb (c := 13963) hS0 rfl
  have bR := me_fb (c := 13961) hS0 rfl
  obtain ⟨s1, s2, s3, s4, s5, s6, s7, s8, s9, s11, s12⟩ := hs
  have ok : mi_in (mi_f h0 13963) := ⟨by omega, by omega⟩
  obtain ⟨⟨k0, k1⟩, ⟨f0, f1, f2⟩, c1, ⟨a0, a1⟩, l1, l2, l3, hb⟩ := rs_lev hI hS0
  have e3 : mi_f h 14003 = mi_f h0 14003 := me_f (c := 14003) s2 hS0 rfl rfl
  have sm := me_as [126, 128, 129, 130, 146, 147, 148, 149, 150, 151] s2 hS0 (by decide)
  have e147 := sm 147 (by decide)
  have e149 := sm 149 (by decide)
  have e151 := sm 151 (by decide)
  have eU : mi_a h 119 (mi_f h0 13963).toNat = s := by rw [s4, if_pos rfl]
  refine mt_ptG s1 ok ?_ ?_
  · intro b c
    rw [eU] at c
    exact absurd c s10
  intro c
  refine ⟨⟨by omega, by omega⟩, fun h1 g1 g2 => ?_⟩
  have e := me_nil g2
  subst e
  refine ⟨_, me_put (d := d + 8) s1 (by omega) hU (by omega) (by rw [e3, e149, e151]; exact l1) (by rw [e3, e149]; exact l2) (by rw [e3, e147]; exact ⟨a0, a1⟩), fun w h2 ow hq => ?_⟩
  obtain ⟨rfl, p1, p2, p3, p4, p5, p6, p7, p8⟩ := hq
  refine mt_ptH p1 ok (fun h3 g3 g4 => ?_)
  have e := me_nil g4
  subst e
  have F : ab_Fr pt_W h0 h3 := (s2.wide (fun c hc => ab_swr_ok (by decide) hc)).trans (p2.wide (fun c hc => ab_swr_ok (by decide) hc))
  have ef : mi_f h3 13960 = mi_f h1 13960 := me_f (c := 13960) p2 s1 rfl rfl
  refine ⟨rfl, p1, F, by omega, fun hf => ⟨fun c => absurd c ht, fun _ => ?_⟩⟩
  rw [ef] at hf
  obtain ⟨⟨i1, i2, i3, i4, i5, i6, i7, i9⟩, i10, i11⟩ := hI
  have e33 : mi_f h3 14003 = mi_f h0 14003 := (me_f (c := 14003) p2 s1 rfl rfl).trans e3
  have e63 : mi_f h3 13963 = mi_f h0 13963 + 1 := (me_f (c := 13963) p2 s1 rfl rfl).trans s3
  have e61 : mi_f h3 13961 = mi_f h0 13961 := me_f (c := 13961) F hS0 rfl rfl
  have e64 : mi_f h3 13964 = mi_f h0 13964 := (me_f (c := 13964) p2 s1 rfl rfl).trans (me_f (c := 13964) s2 hS0 rfl rfl)
  have e65 : mi_f h3 13965 = mi_f h0 13965 := (me_f (c := 13965) p2 s1 rfl rfl).trans (me_f (c := 13965) s2 hS0 rfl rfl)
  have g119 : ∀ i, mi_a h3 119 i = mi_a h1 119 i := fun i => me_a (k := 119) p2 s1 rfl rfl
  have g130 : ∀ i, mi_a h3 130 i = mi_a h0 130 i := fun i => (me_a (k := 130) p2 s1 rfl rfl).trans (sm 130 (by decide) i)
  have g146 : ∀ i, mi_a h3 146 i = mi_a h0 146 i := fun i => (me_a (k := 146) p2 s1 rfl rfl).trans (sm 146 (by decide) i)
  have ek : rd_k z = mi_f h1 14003 := i10.trans e3.symm
  have PL := rd_plain (g' := mi_a h1) i1 (by omega) (by rw [i2]; exact hU) sm (fun i hi => by rw [i2] at hi; rw [s4, if_neg hi]) (fun i hi => by rw [i2] at hi; exact s5 i hi) (fun i => by rw [i2]; exact s6 i) (fun i => by rw [i2]; exact s7 i) (by rw [i2, eU]; exact s10) (fun c => by rw [i2] at c ⊢; rw [eU] at c; exact s9 c) (fun c => by
      rw [i2] at c ⊢
      rw [eU] at c
      obtain ⟨x1, x2⟩ := s11 c
      exact ⟨x1, by omega⟩) (by rw [i10]; exact hb)
  have hc : 0 < mi_a h1 130 (mi_a h1 146 (rd_k z).toNat).toNat := by
    rw [sm 146 (by decide), sm 130 (by decide), i10]
    omega
  have PP := rd_put (g' := mi_a h3) PL.1 (by omega) PL.2 hc (me_as [119, 120, 128, 129, 130, 146, 147, 148] p2 s1 (by decide)) (fun i => by rw [ek, i2]; exact p3 i) (fun i => by rw [ek, i2]; exact p4 i) (fun i => by rw [ek, i2]; exact p5 i) (fun i => by rw [ek, i2]; exact p6 i) (fun i => by rw [ek, i2]; exact p7 i) (fun i => by rw [ek]; exact p8 i)
  refine ⟨by omega, ?_, fun cs => ?_, fun c1 => ?_, _, z, ⟨PP, ?_, ?_, i4.trans e64.symm, by omega, by omega, rs_Rt i7 F hS0 rfl (fun f hf => hf) (rs_P1 i7 s12 hp p2 s1 rfl e63), fun f x0 x1 => ?_⟩, i10.trans e33.symm, ?_⟩
  · rw [p7, e33, e3, if_pos rfl]
    omega
  · rw [← e3, ← e151] at cs
    have x : mi_a h3 149 (mi_f h3 14003).toNat = mi_f h0 13963 := by rw [p6, e33, e3, if_pos ⟨by rw [← e3]; exact cs, rfl⟩]
    rw [x, p3, if_neg (fun y => y.1 cs), s6, if_pos rfl]
    omega
  · rw [e63, g119, show mi_f h0 13963 + 1 - 1 = mi_f h0 13963 by omega, eU]
    exact ht1 c1
  · show wk_u Y + 1 = _
    rw [i2, e63]
  · show wk_f Y = _
    rw [i3, e65]
  · rw [g130]
    rw [e65] at x1
    exact i9 f x0 x1
  · show wk_b Y (mi_a h3 146 0) < wk_u Y + 1
    rw [g146]
    omega
theorem pt_grp (hI : rs_I h0 Y z q) (q0 : 0 ≤ q) (hS0 : ab_Sh sx_sk h0) (hU : mi_f h0 13963 < 60) (hs : pt_S h0 h 10) (ht : mi_f h0 14001 = 40) (hk4 : mi_f h0 14003 ≠ 4) (hp : 0 ≤ mi_f h0 14002 ∧ mi_f h0 14002 ≤ 241) : me_E (d + 9) 190 196 [some (.inr (.inr 109)), some (.inl (mi_f h0 13963))] [] h (pt_Q h0) := by
  have bU := me_fb (c := 13963) hS0 rfl
  have bR := me_fb (c := 13961) hS0 rfl
  have bA := me_fb (c := 13964) hS0 rfl
  have bF := me_fb (c := 13965) hS0 rfl
  obtain ⟨s1, s2, s3, s4, s5, s6, s7, s8, s9, s11, s12⟩ := hs
  have ok : mi_in (mi_f h0 13963) := ⟨by omega, by omega⟩
  obtain ⟨⟨k0, k1⟩, ⟨f0, f1, f2⟩, c1, ⟨a0, a1⟩, l1, l2, l3, hb⟩ := rs_lev hI hS0
  obtain ⟨⟨i1, i2, i3, i4, i5, i6, i7, i9⟩, i10, i11⟩ := hI
  have e3 : mi_f h 14003 = mi_f h0 14003 := me_f (c := 14003) s2 hS0 rfl rfl
  have eF : mi_f h 13965 = mi_f h0 13965 := me_f (c := 13965) s2 hS0 rfl rfl
  have eA : mi_f h 13964 = mi_f h0 13964 := me_f (c := 13964) s2 hS0 rfl rfl
  have eU : mi_a h 119 (mi_f h0 13963).toNat = 10 := by rw [s4, if_pos rfl]
  refine mt_ptG s1 ok ?_ ?_
  rotate_left
  · intro c
    exact absurd eU c
  intro b c
  refine ⟨⟨⟨by omega, by omega⟩, ⟨by omega, by omega⟩, ⟨by omega, by omega⟩, ⟨by omega, by omega⟩, ⟨by omega, by omega⟩⟩, fun h1 g1 g2 g3 g4 => ?_⟩
  have eF1 : mi_f h1 13965 = mi_f h0 13965 := (me_f (c := 13965) g4 s1 rfl rfl).trans eF
  refine ⟨_, me_newForm (d := d + 8) g1 (by omega), fun w h2 ow hq => ?_⟩
  obtain ⟨rfl, p1, p2, p3, p4, p5⟩ := hq
  have e32 : mi_f h2 14003 = mi_f h0 14003 + 1 := by rw [me_f (c := 14003) p2 g1 rfl rfl, g2, e3]
  refine mt_ptI (zz := mi_f h1 13965) (zv := mi_f h 14003 + 1) p1 ok ⟨by omega, by omega⟩ ⟨by omega, by omega⟩ ?_
  intro b2
  refine ⟨⟨⟨by omega, by omega⟩, ⟨by omega, by omega⟩, ⟨by omega, by omega⟩, ⟨by omega, by omega⟩⟩, fun h3 r1 r2 r3 r4 => ?_⟩
  have e33 : mi_f h3 14003 = mi_f h0 14003 + 1 := by rw [me_f (c := 14003) r4 p1 rfl rfl, e32]
  have eA3 : mi_f h3 13964 = mi_f h0 13964 := by rw [me_f (c := 13964) r4 p1 rfl rfl, me_f (c := 13964) p2 g1 rfl rfl, me_f (c := 13964) g4 s1 rfl rfl, eA]
  have eF3 : mi_f h3 13965 = mi_f h0 13965 + 1 := by rw [me_f (c := 13965) r4 p1 rfl rfl, p3, eF1]
  have eU3 : mi_f h3 13963 = mi_f h0 13963 + 1 := by rw [me_f (c := 13963) r4 p1 rfl rfl, me_f (c := 13963) p2 g1 rfl rfl, me_f (c := 13963) g4 s1 rfl rfl, s3]
  have top : mi_a h3 146 (mi_f h3 14003).toNat = mi_f h0 13965 := by rw [r3, e33, e3, if_pos rfl, eF1]
  have G130 : ∀ i, mi_a h3 130 i = if i = (mi_f h0 13965).toNat then 0 else mi_a h0 130 i := fun i => by rw [me_a (k := 130) r4 p1 rfl rfl, p5, eF1, me_a (k := 130) g4 s1 rfl rfl, me_a (k := 130) s2 hS0 rfl rfl]
  have G129 : ∀ i, mi_a h3 129 i = if i = (mi_f h0 13965).toNat then -1 else mi_a h0 129 i := fun i => by rw [me_a (k := 129) r4 p1 rfl rfl, p4, eF1, me_a (k := 129) g4 s1 rfl rfl, me_a (k := 129) s2 hS0 rfl rfl]
  have ch : mi_a h3 130 (mi_a h3 146 (mi_f h3 14003).toNat).toNat = 0 := by rw [top, G130, if_pos rfl]
  refine ⟨_, me_begin (d := d + 8) (zp := 0) r1 ⟨by decide, by decide⟩ (by omega) (by omega) (by rw [top]; omega) (by rw [top]; omega) (by rw [ch]; decide) (fun c => absurd ch c), fun w h4 ow hq => ?_⟩
  obtain ⟨rfl, t1, t2, t3, t4, t5, t6, t7, t8, t9, t10, t11⟩ := hq
  refine mt_ptJ t1 ok (fun h5 u1 u2 => ?_)
  have e := me_nil u2
  subst e
  have F3 : ab_Fr pt_W h0 h3 := (((s2.wide (fun c hc => ab_swr_ok (by decide) hc)).trans (g4.wide (fun c hc => ab_swr_ok (by decide) hc))).trans (p2.wide (fun c hc => ab_swr_ok (by decide) hc))).trans (r4.wide (fun c hc => ab_swr_ok (by decide) hc))
  have F : ab_Fr pt_W h0 h5 := F3.trans (t2.wide (fun c hc => ab_swr_ok (by decide) hc))
  have FF : ab_Fr [(13964, 13966), (14003, 14004), (15360, 15361), (16128, 16641), (18688, 19329)] h h5 := (((g4.wide (fun c hc => ab_swr_ok (by decide) hc)).trans (p2.wide (fun c hc => ab_swr_ok (by decide) hc))).trans (r4.wide (fun c hc => ab_swr_ok (by decide) hc))).trans (t2.wide (fun c hc => ab_swr_ok (by decide) hc))
  have ef : mi_f h5 13960 = mi_f h 13960 := by rw [me_f (c := 13960) t2 r1 rfl rfl, me_f (c := 13960) r4 p1 rfl rfl, me_f (c := 13960) p2 g1 rfl rfl, me_f (c := 13960) g4 s1 rfl rfl]
  refine ⟨rfl, t1, F, by omega, fun hf => ⟨fun _ => ?_, fun c => absurd ht c⟩⟩
  have sA : ∀ j, j ∈ [126, 128, 147, 149, 150, 151] → ∀ i, mi_a h3 j i = mi_a h0 j i := fun j hj i => by
    rw [me_as [126, 128, 147, 149, 150, 151] r4 p1 (by decide) j hj, me_as [126, 128, 147, 149, 150, 151] p2 g1 (by decide) j hj, me_as [126, 128, 147, 149, 150, 151] g4 s1 (by decide) j hj, me_as [126, 128, 147, 149, 150, 151] s2 hS0 (by decide) j hj]
  have e119 : ∀ i, mi_a h3 119 i = mi_a h 119 i := fun i => by rw [me_a (k := 119) r4 p1 rfl rfl, me_a (k := 119) p2 g1 rfl rfl, me_a (k := 119) g4 s1 rfl rfl]
  have e124 : ∀ i, mi_a h3 124 i = mi_a h 124 i := fun i => by rw [me_a (k := 124) r4 p1 rfl rfl, me_a (k := 124) p2 g1 rfl rfl, me_a (k := 124) g4 s1 rfl rfl]
  have e125 : ∀ i, mi_a h3 125 i = mi_a h 125 i := fun i => by rw [me_a (k := 125) r4 p1 rfl rfl, me_a (k := 125) p2 g1 rfl rfl, me_a (k := 125) g4 s1 rfl rfl]
  have e120 : ∀ i, mi_a h2 120 i = mi_a h 120 i := fun i => by rw [me_a (k := 120) p2 g1 rfl rfl, me_a (k := 120) g4 s1 rfl rfl]
  have G120 : ∀ i, mi_a h3 120 i = if i = (mi_f h0 13963).toNat then mi_f h0 13965 else mi_a h0 120 i := fun i => by
    rw [r2]
    by_cases c : i = (mi_f h0 13963).toNat
    · rw [if_pos c, if_pos c, e32, e3, if_pos rfl, eF1]
    · rw [if_neg c, if_neg c, e120, s5 i c]
  have G146 : ∀ i, mi_a h3 146 i = if i = (mi_f h0 14003 + 1).toNat then mi_f h0 13965 else mi_a h0 146 i := fun i => by
    rw [r3, e3, eF1, me_a (k := 146) p2 g1 rfl rfl, me_a (k := 146) g4 s1 rfl rfl, me_a (k := 146) s2 hS0 rfl rfl]
  have G148 : ∀ i, mi_a h3 148 i = if i = (mi_f h0 14003 + 1).toNat then mi_f h0 13963 else mi_a h0 148 i := fun i => by
    rw [me_a (k := 148) r4 p1 rfl rfl, me_a (k := 148) p2 g1 rfl rfl, g3, e3, me_a (k := 148) s2 hS0 rfl rfl]
  have GR := rd_group (g' := mi_a h3) i1 (by omega) (by omega) (by omega) (by omega) sA (fun i => by rw [i2, e119, s4]) (fun i => by rw [i2, i3]; exact G120 i) (fun i => by rw [i2, e124, s6]) (fun i => by rw [i2, e125, s7]) (fun i => by rw [i3]; exact G129 i) (fun i => by rw [i3]; exact G130 i) (fun i => by rw [i3, i10]; exact G146 i) (fun i => by rw [i2, i10]; exact G148 i) (by rw [i10]; exact hb)
  have ek : rd_k (rd_zg z) = mi_f h3 14003 := by
    show rd_k z + 1 = _
    omega
  have ea : rd_a (rd_zg z) = mi_f h3 13964 := by
    show rd_a z = _
    omega
  have BG := rd_begin (g' := mi_a h5) GR (by omega) (by omega) (me_as [115, 119, 120, 124, 125, 146, 148] t2 r1 (by decide)) (fun i => by rw [ea]; exact t4 i) (fun i => by rw [ea, ek]; exact t5 i) (fun i => by rw [ea, ek]; exact t6 i) (fun i => by rw [ek]; exact t7 i) (fun i => by rw [ea, ek]; exact t8 i) (fun i => by rw [ek]; exact t9 i) (fun i => by rw [ek]; exact t10 i) (fun i => by rw [ek]; exact t11 i)
  have e61 : mi_f h5 13961 = mi_f h0 13961 := me_f (c := 13961) F hS0 rfl rfl
  have e63 : mi_f h5 13963 = mi_f h0 13963 + 1 := (me_f (c := 13963) t2 r1 rfl rfl).trans eU3
  have e65 : mi_f h5 13965 = mi_f h0 13965 + 1 := (me_f (c := 13965) t2 r1 rfl rfl).trans eF3
  have e53 : mi_f h5 14003 = mi_f h0 14003 + 1 := (me_f (c := 14003) t2 r1 rfl rfl).trans e33
  have z0 := (i1.2.2.2.2.1 0 (Int.le_refl _) (by omega)).1
  refine ⟨rd_yg (mi_a h0) Y z, rd_zb (mi_a h3) (rd_zg z), ⟨BG, ?_, ?_, ?_, by omega, by omega, rs_Rt i7 F hS0 rfl (fun f hf => ?_) (rs_P1 i7 s12 hp FF s1 rfl e63), fun f x0 x1 => ?_⟩, ?_, ?_⟩
  · show wk_u Y + 1 = _
    omega
  · show wk_f Y + 1 = _
    omega
  · show rd_a (rd_zg z) + 1 = _
    omega
  · obtain ⟨y1, y2, y3⟩ := hf
    refine ⟨y1, ?_, ?_⟩
    · show f < wk_f Y + 1
      omega
    · show (if f = wk_f Y then 60 else wk_x Y f) - (if f = wk_f Y then wk_u Y else wk_b Y f) ≤ 61
      rw [if_neg (by omega), if_neg (by omega)]
      exact y3
  · rw [t7, top, G130]
    rw [e65] at x1
    by_cases c : f.toNat = (mi_f h0 13965).toNat
    · rw [if_pos c, if_pos c]
      decide
    · rw [if_neg c, if_neg c]
      exact i9 f x0 (by omega)
  · show rd_k (rd_zg z) = _
    omega
  · show (if mi_a h5 146 0 = wk_f Y then wk_u Y else wk_b Y (mi_a h5 146 0)) < wk_u Y + 1
    have z1 := z0.2.1
    have e0 : mi_a h5 146 0 = mi_a h0 146 0 := by rw [me_a (k := 146) t2 r1 rfl rfl, G146, if_neg (by omega)]
    rw [e0, if_neg (by show ¬ mi_a h0 146 0 = wk_f Y; have z1 : mi_a h0 146 0 < wk_f Y := z1; omega)]
    omega
end PTP
/-! reading: part, from its begin -/
def pt_T (h0 h : sm_H) (s : Int) : Prop :=
  ab_Sh sx_sk h ∧ ab_Fr pt_V h0 h ∧ mi_f h 13963 = mi_f h0 13963 + 1 ∧
  (∀ i, mi_a h 119 i = if i = (mi_f h0 13963).toNat then s else mi_a h0 119 i) ∧
  (∀ i, i ≠ (mi_f h0 13963).toNat → mi_a h 120 i = mi_a h0 120 i) ∧
  (∀ i, mi_a h 124 i = if i = (mi_f h0 13963).toNat then -1 else mi_a h0 124 i) ∧
  (∀ i, mi_a h 125 i = if i = (mi_f h0 13963).toNat then -1 else mi_a h0 125 i) ∧
  mi_f h 13960 = 0 ∧
  (s = 9 → 0 ≤ mi_a h 120 (mi_f h0 13963).toNat ∧ mi_a h 120 (mi_f h0 13963).toNat < 26) ∧
  (∀ i, mi_a h 121 i = if i = (mi_f h0 13963).toNat then mi_f h0 14002 else mi_a h0 121 i)
/-- what part is begun with -/
def pt_P (h0 : sm_H) (Y : wk_Y) (z : rd_Z) (q : Int) : Prop :=
  rs_I h0 Y z q ∧ 0 ≤ q ∧ ab_Sh sx_sk h0 ∧ sn_R h0 ∧ mi_f h0 13960 = 0
/-- the sort that the token asks for -/
def pt_s (h0 : sm_H) (s : Int) : Prop := (s = 10 ↔ mi_f h0 14001 = 40) ∧ (s = 10 → mi_f h0 14003 ≠ 4) ∧ (mi_f h0 14001 = 1 → s ≤ 7) ∧ (s = 9 → mi_f h0 14001 = 2)
section PTQ
variable {d : Nat} {h0 h : sm_H} {Y : wk_Y} {z : rd_Z} {q s : Int}
theorem pt_go (hP : pt_P h0 Y z q) (hU : mi_f h0 13963 < 60) (ht : pt_s h0 s) (hs : pt_S h0 h s) : me_E (d + 9) 190 196 [some (.inr (.inr 109)), some (.inl (mi_f h0 13963))] [] h (pt_Q h0) := by
  obtain ⟨p1, p2, p3, p4, p5⟩ := hP
  obtain ⟨t1, t2, t3, t4⟩ := ht
  by_cases c : s = 10
  · subst c
    exact pt_grp p1 p2 p3 hU hs (t1.mp rfl) (t2 rfl) p4.1
  · exact pt_put p1 p2 p3 hU hs c (fun x => c (t1.mpr x)) t3 p4.1
theorem pt155 (hP : pt_P h0 Y z q) (hU : mi_f h0 13963 < 60) (ht : pt_s h0 s) (hs : pt_T h0 h s) : me_E (d + 9) 190 155 [some (.inr (.inr 109)), some (.inl (mi_f h0 13963))] [] h (pt_Q h0) := by
  have hS0 := hP.2.2.1
  have bU := me_fb (c := 13963) hS0 rfl
  have bP := hP.2.2.2.1.1
  have ok : mi_in (mi_f h0 13963) := ⟨by omega, by omega⟩
  obtain ⟨s1, s2, s3, s4, s5, s6, s7, s8, s9, s10⟩ := id hs
  have eU : mi_a h 119 (mi_f h0 13963).toNat = s := by rw [s4, if_pos rfl]
  refine mt_ptE s1 ok ?_ ?_
  · intro c
    refine ⟨⟨by omega, by omega⟩, fun h1 g1 g2 => ?_⟩
    have e := me_nil g2
    subst e
    rw [eU] at c
    exact pt_go hP hU ht ⟨s1, s2, s3, s4, s5, s6, s7, by omega, s9, fun x => absurd x c, s10⟩
  · intro c
    refine ⟨⟨by omega, by omega⟩, fun h1 g1 g2 => ?_⟩
    have e := me_nil g2
    subst e
    rw [eU] at c
    refine ⟨_, me_literal (d := d + 8) s1, fun w h2 ow hq => ?_⟩
    obtain ⟨q1, q2, v, rfl, v0, v1⟩ := hq
    have F2 : ab_Fr pt_V h0 h2 := s2.trans (q2.wide (fun c hc => ab_swr_ok (by decide) hc))
    have e2 : mi_f h2 14002 = mi_f h0 14002 := me_f (c := 14002) F2 hS0 rfl rfl
    have ef : mi_f h2 13960 = 0 := (me_f (c := 13960) q2 s1 rfl rfl).trans s8
    have mk : ∀ {h3 : sm_H} {wr : List (Nat × Nat)}, ab_Sh sx_sk h3 → ab_Fr wr h2 h3 → ab_sub_wr wr [(13960, 13961), (15360, 15361)] = true → (∀ i, mi_a h3 120 i = if i = (mi_f h0 13963).toNat then v else mi_a h2 120 i) → (v < 20 ∨ 0 < mi_f h3 13960) → 0 ≤ mi_f h3 13960 → pt_S h0 h3 s := fun {h3 wr} r1 r2 hw r3 r4 r5 => by
      have r2 : ab_Fr [(13960, 13961), (15360, 15361)] h2 h3 := r2.wide (fun c hc => ab_swr_ok hw hc)
      refine ⟨r1, F2.trans (r2.wide (fun c hc => ab_swr_ok (by decide) hc)), ?_, fun i => ?_, fun i hi => ?_, fun i => ?_, fun i => ?_, r5, fun x => by omega, fun _ => ?_, fun i => ?_⟩
      · rw [me_f (c := 13963) r2 q1 rfl rfl, me_f (c := 13963) q2 s1 rfl rfl, s3]
      · rw [me_a (k := 119) r2 q1 rfl rfl, me_a (k := 119) q2 s1 rfl rfl, s4]
      · rw [r3, if_neg hi, me_a (k := 120) q2 s1 rfl rfl, s5 i hi]
      · rw [me_a (k := 124) r2 q1 rfl rfl, me_a (k := 124) q2 s1 rfl rfl, s6]
      · rw [me_a (k := 125) r2 q1 rfl rfl, me_a (k := 125) q2 s1 rfl rfl, s7]
      · rw [r3, if_pos rfl]
        exact ⟨v0, r4⟩
      · rw [me_a (k := 121) r2 q1 rfl rfl, me_a (k := 121) q2 s1 rfl rfl, s10]
    refine mt_ptF (zz := v) (zv := mi_f h0 13963) q1 ok ⟨by omega, by omega⟩ ok ?_ ?_
    · intro c2
      rw [if_pos rfl] at c2
      refine ⟨⟨⟨by omega, by omega⟩, ⟨by omega, by omega⟩⟩, fun h3 r1 r2 r3 => ?_⟩
      have ef3 : mi_f h3 13960 = 0 := (me_f (c := 13960) r3 q1 rfl rfl).trans ef
      exact pt_go hP hU ht (mk r1 r3 (by decide) r2 (Or.inl (by omega)) (by omega))
    · intro c2
      refine ⟨⟨⟨by omega, by omega⟩, ⟨by omega, by omega⟩⟩, fun h3 r1 r2 r3 => ?_⟩
      have ef3 : mi_f h3 13960 = 0 := (me_f (c := 13960) r3 q1 rfl rfl).trans ef
      refine ⟨_, me_blame (d := d + 8) r1 (by decide) (by decide) (by omega) (by omega) (by omega), fun w h4 ow hq => ?_⟩
      obtain ⟨rfl, t1, t2, t3⟩ := hq
      have F4 : ab_Fr [(13960, 13961), (15360, 15361)] h2 h4 := (r3.wide (fun c hc => ab_swr_ok (by decide) hc)).trans (t2.wide (fun c hc => ab_swr_ok (by decide) hc))
      exact pt_go hP hU ht (mk t1 F4 (by decide) (fun i => by rw [me_a (k := 120) t2 r1 rfl rfl, r2]) (Or.inr t3) (by omega))
theorem pt101 (hP : pt_P h0 Y z q) (hU : mi_f h0 13963 < 60) (ht : pt_s h0 s) (s1 : ab_Sh sx_sk h) (s2 : ab_Fr [(13963, 13964), (15232, 15233)] h0 h) (s3 : mi_f h 13963 = mi_f h0 13963 + 1) (s4 : ∀ i, mi_a h 119 i = if i = (mi_f h0 13963).toNat then s else mi_a h0 119 i) : me_E (d + 9) 190 101 [some (.inr (.inr 109)), some (.inl (mi_f h0 13963))] [] h (pt_Q h0) := by
  have hS0 := hP.2.2.1
  have bU := me_fb (c := 13963) hS0 rfl
  have ok : mi_in (mi_f h0 13963) := ⟨by omega, by omega⟩
  have e1 : mi_f h 14001 = mi_f h0 14001 := me_f (c := 14001) s2 hS0 rfl rfl
  have e4 : mx_l h 14004 = mx_l h0 14004 := me_l (c := 14004) s2 hS0 rfl rfl
  have mk : ∀ {h3 : sm_H} {v : Int}, ab_Sh sx_sk h3 → (∀ i, mi_a h3 120 i = if i = (mi_f h0 13963).toNat then v else mi_a h 120 i) → (∀ i, mi_a h3 121 i = if i = (mi_f h0 13963).toNat then mi_f h 14002 else mi_a h 121 i) → (∀ i, mi_a h3 124 i = if i = (mi_f h0 13963).toNat then -1 else mi_a h 124 i) → (∀ i, mi_a h3 125 i = if i = (mi_f h0 13963).toNat then -1 else mi_a h 125 i) → ab_Fr [(15360, 15361), (15488, 15489), (15616, 15617), (15872, 15873), (16000, 16001)] h h3 → (s = 9 → 0 ≤ v ∧ v < 26) → pt_T h0 h3 s := fun {h3 v} r1 r2 r2p r3 r4 r5 r6 => by
    refine ⟨r1, (s2.wide (fun c hc => ab_swr_ok (by decide) hc)).trans (r5.wide (fun c hc => ab_swr_ok (by decide) hc)), (me_f (c := 13963) r5 s1 rfl rfl).trans s3, fun i => ?_, fun i hi => ?_, fun i => ?_, fun i => ?_, ?_, fun x => ?_, fun i => ?_⟩
    · rw [me_a (k := 119) r5 s1 rfl rfl, s4]
    · rw [r2, if_neg hi, me_a (k := 120) s2 hS0 rfl rfl]
    · rw [r3, me_a (k := 124) s2 hS0 rfl rfl]
    · rw [r4, me_a (k := 125) s2 hS0 rfl rfl]
    · rw [me_f (c := 13960) r5 s1 rfl rfl, me_f (c := 13960) s2 hS0 rfl rfl]
      exact hP.2.2.2.2
    · rw [r2, if_pos rfl]
      exact r6 x
    · rw [r2p, me_f (c := 14002) s2 hS0 rfl rfl, me_a (k := 121) s2 hS0 rfl rfl]
  refine mt_ptD s1 ok ?_ ?_
  · intro b c
    refine ⟨⟨by omega, by omega⟩, fun h1 g1 g2 g3 g4 g5 g6 g7 => ?_⟩
    exact pt155 hP hU ht (mk g1 g2 g3 g5 g6 g7 (fun x => by have := ht.2.2.2 x; omega))
  · intro b c
    refine ⟨⟨by omega, by omega⟩, fun h1 g1 g2 g3 g4 g5 g6 g7 => ?_⟩
    exact pt155 hP hU ht (mk g1 g2 g3 g5 g6 g7 (fun x => by rw [e4]; exact hP.2.2.2.1.2.2.1 (by omega)))
theorem pt48 (hP : pt_P h0 Y z q) (hU : mi_f h0 13963 < 60) (hk : mi_f h0 14001 = 40 → mi_f h0 14003 ≠ 4) (s1 : ab_Sh sx_sk h) (s2 : ab_Fr [(13963, 13964)] h0 h) (s3 : mi_f h 13963 = mi_f h0 13963 + 1) : me_E (d + 9) 190 48 [some (.inr (.inr 109)), some (.inl (mi_f h0 13963))] [] h (pt_Q h0) := by
  have hS0 := hP.2.2.1
  have bU := me_fb (c := 13963) hS0 rfl
  have ok : mi_in (mi_f h0 13963) := ⟨by omega, by omega⟩
  have e1 : mi_f h 14001 = mi_f h0 14001 := me_f (c := 14001) s2 hS0 rfl rfl
  have fin : ∀ {h3 : sm_H} {s : Int}, ab_Sh sx_sk h3 → (∀ i, mi_a h3 119 i = if i = (mi_f h0 13963).toNat then s else mi_a h 119 i) → ab_Fr [(15232, 15233)] h h3 → pt_s h0 s → me_E (d + 9) 190 101 [some (.inr (.inr 109)), some (.inl (mi_f h0 13963))] [] h3 (pt_Q h0) := fun {h3 s} r1 r2 r3 r4 => by
    refine pt101 hP hU r4 r1 ((s2.wide (fun c hc => ab_swr_ok (by decide) hc)).trans (r3.wide (fun c hc => ab_swr_ok (by decide) hc))) ((me_f (c := 13963) r3 s1 rfl rfl).trans s3) (fun i => ?_)
    rw [r2, me_a (k := 119) s2 hS0 rfl rfl]
  refine mt_ptB s1 ok ?_ ?_ ?_ ?_
  · intro b c1 c2 c3
    refine ⟨⟨by omega, by omega⟩, fun h1 g1 g2 g3 => fin g1 g2 g3 ⟨⟨fun x => absurd x (by decide), fun x => by omega⟩, fun x => absurd x (by decide), fun x => by omega, fun x => absurd x (by decide)⟩⟩
  · intro b c1 c2 c3
    refine ⟨⟨by omega, by omega⟩, fun h1 g1 g2 g3 => fin g1 g2 g3 ⟨⟨fun _ => by omega, fun _ => rfl⟩, fun _ => hk (by omega), fun x => by omega, fun x => absurd x (by decide)⟩⟩
  · intro b c1 c2
    refine ⟨⟨by omega, by omega⟩, fun h1 g1 g2 g3 => fin g1 g2 g3 ⟨⟨fun x => absurd x (by decide), fun x => by omega⟩, fun x => absurd x (by decide), fun x => by omega, fun _ => by omega⟩⟩
  · intro b c1 h1 g1 g2
    have e := me_nil g2
    subst e
    refine ⟨_, me_sortOf (d := d + 8) s1, fun w h2 ow hq => ?_⟩
    obtain ⟨rfl, v, rfl, v0, v1⟩ := hq
    refine mt_ptC (zz := v) (zv := mi_f h0 13963) s1 ok ⟨by omega, by omega⟩ ok ?_
    refine ⟨⟨⟨by omega, by omega⟩, ⟨by omega, by omega⟩⟩, fun h3 g1 g2 g3 => fin g1 g2 g3 ⟨⟨fun x => by omega, fun x => by omega⟩, fun x => by omega, fun x => v1, fun x => by omega⟩⟩
theorem me_part (hP : pt_P h0 Y z q) : me_E (d + 9) 190 0 [some (.inr (.inr 109)), none] [] h0 (pt_Q h0) := by
  have hS0 := hP.2.2.1
  have bP := hP.2.2.2.1.1
  have hf := hP.2.2.2.2
  have bl : ∃ Q1, me_E (d + 8) 184 0 (mi_entry 3 [.inr (.inr 109), .inl ((3 : Int)), .inl (mi_f h0 14002)]) [] h0 Q1 ∧ ∀ w h2, (∀ x, w = some x → mi_ok x) → Q1 w h2 → me_E (d + 9) 190 35 [some (.inr (.inr 109)), none] (mi_back w []) h2 (pt_Q h0) := by
    refine ⟨_, me_blame (d := d + 8) hS0 (by decide) (by decide) (by omega) (by omega) (by omega), fun w h2 ow hq => ?_⟩
    obtain ⟨rfl, t1, t2, t3⟩ := hq
    refine mt_ptK t1 (fun h3 g1 g2 => ?_)
    have e := me_nil g2
    subst e
    exact ⟨rfl, t1, t2.wide (fun c hc => ab_swr_ok (by decide) hc), by omega, fun x => by omega⟩
  refine mt_ptA hS0 ?_ ?_ ?_ ?_
  · intro b c h1 g1 g2
    have e := me_nil g2
    subst e
    exact bl
  · intro b1 b2 c1 c2
    refine ⟨⟨⟨by omega, by omega⟩, ⟨by omega, by omega⟩⟩, fun h1 g1 g2 g3 => pt48 hP (by omega) (fun x => absurd x c2) g1 g3 g2⟩
  · intro b1 b2 b3 c1 c2 c3
    refine ⟨⟨⟨by omega, by omega⟩, ⟨by omega, by omega⟩⟩, fun h1 g1 g2 g3 => pt48 hP (by omega) (fun _ => c3) g1 g3 g2⟩
  · intro b1 b2 b3 c1 c2 c3 h1 g1 g2
    have e := me_nil g2
    subst e
    exact bl
end PTQ
/-! reading: plus; a level closes, an alternative begins, a pair is announced: the program's state -/
def pl_W : List (Nat × Nat) := [(13960, 13961), (14000, 14003), (14004, 14005), (15360, 15361)]
section PLU
variable {d : Nat} {h h0 h' : sm_H} {Y : wk_Y} {z : rd_Z} {q : Int}
theorem rs_word (hI : rs_I h Y z q) (hS : ab_Sh sx_sk h) (hF : ab_Fr [(15360, 15361)] h h') (h120 : ∀ i : Nat, i ≠ (mi_f h 13963 - 1).toNat → mi_a h' 120 i = mi_a h 120 i) (hs : mi_a h 119 (mi_f h 13963 - 1).toNat ≤ 7) : rs_I h' Y z q := by
  obtain ⟨⟨i1, i2, i3, i4, i5, i6, i7, i9⟩, i10, i11⟩ := hI
  have e61 : mi_f h' 13961 = mi_f h 13961 := me_f (c := 13961) hF hS rfl rfl
  have e63 : mi_f h' 13963 = mi_f h 13963 := me_f (c := 13963) hF hS rfl rfl
  have e64 : mi_f h' 13964 = mi_f h 13964 := me_f (c := 13964) hF hS rfl rfl
  have e65 : mi_f h' 13965 = mi_f h 13965 := me_f (c := 13965) hF hS rfl rfl
  have e3 : mi_f h' 14003 = mi_f h 14003 := me_f (c := 14003) hF hS rfl rfl
  refine ⟨⟨rd_word i1 (me_as _ hF hS (by decide)) h120 (by omega) (by omega) (by omega), by omega, by omega, by omega, by omega, by omega, rs_Rt i7 hF hS rfl (fun _ x => x) (rs_Pf i7 hF hS rfl), fun f x0 x1 => ?_⟩, by omega, ?_⟩
  · rw [me_a (k := 130) hF hS rfl rfl]
    exact i9 f x0 (by omega)
  · rw [me_a (k := 146) hF hS rfl rfl]
    exact i11
def pl_Q (h0 : sm_H) (Y : wk_Y) (z : rd_Z) (w : Option mi_V) (h' : sm_H) : Prop :=
  w = none ∧ ab_Sh sx_sk h' ∧ ab_Fr pl_W h0 h' ∧ 0 ≤ mi_f h' 13960 ∧ (mi_f h' 13960 = 0 → mi_f h' 14000 ≤ 241 ∧ rs_I h' Y z 1)
theorem me_plus (hI : rs_I h0 Y z 1) (hS0 : ab_Sh sx_sk h0) (hf : mi_f h0 13960 = 0) (ha : mi_f h0 14000 ≤ 241) (hU : 1 ≤ mi_f h0 13963) (hs : mi_a h0 119 (mi_f h0 13963 - 1).toNat ≤ 7) : me_E (d + 9) 193 0 [some (.inr (.inr 109)), none] [] h0 (pl_Q h0 Y z) := by
  have b0 := me_fb (c := 14000) hS0 rfl
  have ok : mi_in (mi_f h0 14000) := ⟨by omega, by omega⟩
  refine mt_plA hS0 (fun h1 g1 g2 => ?_)
  have e := me_nil g2
  subst e
  refine ⟨_, me_scan (d := d + 6) hS0 ha, fun w h2 ow hq => ?_⟩
  obtain ⟨rfl, q1, q2, q3⟩ := hq
  have ef2 : mi_f h2 13960 = 0 := (me_f (c := 13960) q2 hS0 rfl rfl).trans hf
  refine mt_plB q1 ok ?_ ?_
  · intro b c h3 g1 g2
    have e := me_nil g2
    subst e
    refine ⟨_, me_scan (d := d + 6) q1 (q3.2.1 (by omega) (by omega)), fun w h4 ow hq => ?_⟩
    obtain ⟨rfl, r1, r2, r3⟩ := hq
    have F4 : ab_Fr sn_W h1 h4 := q2.trans r2
    have ef4 : mi_f h4 13960 = 0 := (me_f (c := 13960) r2 q1 rfl rfl).trans ef2
    have e63 : mi_f h4 13963 = mi_f h1 13963 := me_f (c := 13963) F4 hS0 rfl rfl
    have I4 := rs_fr hI hS0 F4 (by decide)
    refine mt_plC r1 ok ?_ ?_
    · intro b c h5 g1 g2
      have e := me_nil g2
      subst e
      refine ⟨_, me_blame (d := d + 8) r1 (by decide) (by decide) (by have := r3.1; omega) (by have := r3.1; omega) (by omega), fun w h6 ow hq => ?_⟩
      obtain ⟨rfl, t1, t2, t3⟩ := hq
      refine mt_plD t1 ok (fun h7 g1 g2 => ?_)
      have e := me_nil g2
      subst e
      exact ⟨rfl, t1, (F4.wide (fun c hc => ab_swr_ok (by decide) hc)).trans (t2.wide (fun c hc => ab_swr_ok (by decide) hc)), by omega, fun x => by omega⟩
    · intro b b2 c
      refine ⟨⟨⟨by omega, by omega⟩, ⟨by omega, by omega⟩⟩, fun h5 g1 g2 g3 => ?_⟩
      have ef5 : mi_f h5 13960 = 0 := (me_f (c := 13960) g3 r1 rfl rfl).trans ef4
      have ea : mi_f h5 14000 = mi_f h4 14000 := me_f (c := 14000) g3 r1 rfl rfl
      have := r3.2.1 (by omega) (by omega)
      refine ⟨rfl, g1, (F4.wide (fun c hc => ab_swr_ok (by decide) hc)).trans (g3.wide (fun c hc => ab_swr_ok (by decide) hc)), by omega, fun _ => ⟨by omega, rs_word I4 r1 g3 (fun i hi => by rw [g2, if_neg hi]) ?_⟩⟩
      rw [e63, me_a (k := 119) F4 hS0 rfl rfl]
      exact hs
  · intro b c
    refine ⟨⟨by omega, by omega⟩, fun h3 g1 g2 g3 => ?_⟩
    have F3 : ab_Fr sn_W h1 h3 := q2.trans (g3.wide (fun c hc => ab_swr_ok (by decide) hc))
    have ef3 : mi_f h3 13960 = 0 := (me_f (c := 13960) g3 q1 rfl rfl).trans ef2
    exact ⟨rfl, g1, F3.wide (fun c hc => ab_swr_ok (by decide) hc), by omega, fun _ => ⟨by omega, rs_fr hI hS0 F3 (by decide)⟩⟩
/-- a unit is put -/
theorem rs_put {u : Int} (hI : rs_I h Y z q) (hS : ab_Sh sx_sk h) (hu : rd_loose (mi_a h) Y z u) (hF : ab_Fr pu_W h h') (hp : pu_R u h h') : rs_I h' Y z q ∧ 0 ≤ mi_a h' 150 (mi_f h' 14003).toNat ∧ (mi_a h 151 (mi_f h 14003).toNat = 0 → 0 ≤ mi_a h' 149 (mi_f h' 14003).toNat ∧ mi_a h' 124 (mi_a h' 149 (mi_f h' 14003).toNat).toNat < 0) := by
  have b3 := me_fb (c := 14003) hS rfl
  have L := rs_lev hI hS
  obtain ⟨⟨i1, i2, i3, i4, i5, i6, i7, i9⟩, i10, i11⟩ := hI
  obtain ⟨p3, p4, p5, p6, p7, p8⟩ := hp
  have e61 : mi_f h' 13961 = mi_f h 13961 := me_f (c := 13961) hF hS rfl rfl
  have e63 : mi_f h' 13963 = mi_f h 13963 := me_f (c := 13963) hF hS rfl rfl
  have e64 : mi_f h' 13964 = mi_f h 13964 := me_f (c := 13964) hF hS rfl rfl
  have e65 : mi_f h' 13965 = mi_f h 13965 := me_f (c := 13965) hF hS rfl rfl
  have e3 : mi_f h' 14003 = mi_f h 14003 := me_f (c := 14003) hF hS rfl rfl
  have u0 := hu.1
  have u4 := hu.2.2.2.2.1
  have PP := rd_put (g' := mi_a h') i1 (by omega) hu (by rw [i10]; have := L.2.2.1; omega) (me_as _ hF hS (by decide)) (fun i => by rw [i10]; exact p3 i) (fun i => by rw [i10]; exact p4 i) (fun i => by rw [i10]; exact p5 i) (fun i => by rw [i10]; exact p6 i) (fun i => by rw [i10]; exact p7 i) (fun i => by rw [i10]; exact p8 i)
  refine ⟨⟨⟨PP, by omega, by omega, by omega, by omega, by omega, rs_Rt i7 hF hS rfl (fun _ x => x) (rs_Pf i7 hF hS rfl), fun f x0 x1 => ?_⟩, by omega, ?_⟩, ?_, fun cs => ?_⟩
  · rw [me_a (k := 130) hF hS rfl rfl]
    exact i9 f x0 (by omega)
  · rw [me_a (k := 146) hF hS rfl rfl]
    exact i11
  · rw [p7, e3, if_pos rfl]
    exact u0
  · have x : mi_a h' 149 (mi_f h' 14003).toNat = u := by rw [p6, e3, if_pos ⟨cs, rfl⟩]
    rw [x, p3, if_neg (fun y => y.1 cs)]
    exact ⟨u0, u4⟩
/-- an alternative begins -/
theorem rs_begin (hI : rs_I h Y z 1) (hS : ab_Sh sx_sk h) (hc : mi_a h 130 (mi_a h 146 (mi_f h 14003).toNat).toNat ≠ 6) (hF : ab_Fr bg_W h h') (hp : bg_R h h') : ∃ z', rs_I h' Y z' 0 := by
  have b3 := me_fb (c := 14003) hS rfl
  have bU := me_fb (c := 13963) hS rfl
  have bR := me_fb (c := 13961) hS rfl
  obtain ⟨-, ⟨l1, l2, l3⟩, -⟩ := rs_lev hI hS
  obtain ⟨⟨i1, i2, i3, i4, i5, i6, i7, i9⟩, i10, i11⟩ := hI
  obtain ⟨t3, t4, t5, t6, t7, t8, t9, t10, t11⟩ := hp
  have e61 : mi_f h' 13961 = mi_f h 13961 := me_f (c := 13961) hF hS rfl rfl
  have e63 : mi_f h' 13963 = mi_f h 13963 := me_f (c := 13963) hF hS rfl rfl
  have e65 : mi_f h' 13965 = mi_f h 13965 := me_f (c := 13965) hF hS rfl rfl
  have e3 : mi_f h' 14003 = mi_f h 14003 := me_f (c := 14003) hF hS rfl rfl
  have BG := rd_begin (g' := mi_a h') (rd_I_J i1) (by omega) (by omega) (me_as [115, 119, 120, 124, 125, 146, 148] hF hS (by decide)) (fun i => by rw [i4]; exact t4 i) (fun i => by rw [i4, i10]; exact t5 i) (fun i => by rw [i4, i10]; exact t6 i) (fun i => by rw [i10]; exact t7 i) (fun i => by rw [i4, i10]; exact t8 i) (fun i => by rw [i10]; exact t9 i) (fun i => by rw [i10]; exact t10 i) (fun i => by rw [i10]; exact t11 i)
  refine ⟨_, ⟨BG, by omega, by omega, ?_, by omega, by omega, rs_Rt i7 hF hS rfl (fun _ x => x) (rs_Pf i7 hF hS rfl), fun f x0 x1 => ?_⟩, ?_, ?_⟩
  · show rd_a z + 1 = _
    omega
  · rw [t7]
    have y := i9 f x0 (by omega)
    by_cases c : f.toNat = (mi_a h 146 (mi_f h 14003).toNat).toNat
    · rw [if_pos c]
      rw [← c] at hc
      omega
    · rw [if_neg c]
      exact y
  · show rd_k z = _
    omega
  · rw [me_a (k := 146) hF hS rfl rfl]
    exact i11
/-- a pair is announced -/
theorem rs_swap (hI : rs_I h Y z 1) (hS : ab_Sh sx_sk h) (hF : ab_Fr [(19328, 19329)] h h') (h151 : ∀ i : Nat, i ≠ (mi_f h 14003).toNat → mi_a h' 151 i = mi_a h 151 i) (hl : 0 ≤ mi_a h 149 (mi_f h 14003).toNat) (hm : mi_a h 124 (mi_a h 149 (mi_f h 14003).toNat).toNat < 0) : rs_I h' Y z 0 := by
  obtain ⟨⟨i1, i2, i3, i4, i5, i6, i7, i9⟩, i10, i11⟩ := hI
  have e61 : mi_f h' 13961 = mi_f h 13961 := me_f (c := 13961) hF hS rfl rfl
  have e63 : mi_f h' 13963 = mi_f h 13963 := me_f (c := 13963) hF hS rfl rfl
  have e64 : mi_f h' 13964 = mi_f h 13964 := me_f (c := 13964) hF hS rfl rfl
  have e65 : mi_f h' 13965 = mi_f h 13965 := me_f (c := 13965) hF hS rfl rfl
  have e3 : mi_f h' 14003 = mi_f h 14003 := me_f (c := 14003) hF hS rfl rfl
  refine ⟨⟨rd_swap i1 (me_as _ hF hS (by decide)) (fun i hi => h151 i (by rw [i10] at hi; exact hi)) (by rw [i10]; exact hl) (by rw [i10]; exact hm), by omega, by omega, by omega, by omega, by omega, rs_Rt i7 hF hS rfl (fun _ x => x) (rs_Pf i7 hF hS rfl), fun f x0 x1 => ?_⟩, by omega, ?_⟩
  · rw [me_a (k := 130) hF hS rfl rfl]
    exact i9 f x0 (by omega)
  · rw [me_a (k := 146) hF hS rfl rfl]
    exact i11
/-- a level closes -/
theorem rs_close (hI : rs_I h Y z q) (hS : ab_Sh sx_sk h) (hk : 0 < mi_f h 14003) (hF : ab_Fr [(14003, 14004)] h h') (h3 : mi_f h' 14003 = mi_f h 14003 - 1) : rs_I h' (rd_yk (mi_a h) Y z) (rd_zk z) q ∧ rd_loose (mi_a h') (rd_yk (mi_a h) Y z) (rd_zk z) (mi_a h 148 (mi_f h 14003).toNat) := by
  obtain ⟨⟨i1, i2, i3, i4, i5, i6, i7, i9⟩, i10, i11⟩ := hI
  have e61 : mi_f h' 13961 = mi_f h 13961 := me_f (c := 13961) hF hS rfl rfl
  have e63 : mi_f h' 13963 = mi_f h 13963 := me_f (c := 13963) hF hS rfl rfl
  have e64 : mi_f h' 13964 = mi_f h 13964 := me_f (c := 13964) hF hS rfl rfl
  have e65 : mi_f h' 13965 = mi_f h 13965 := me_f (c := 13965) hF hS rfl rfl
  obtain ⟨c1, c2⟩ := rd_close i1 (by omega)
  obtain ⟨x1, x2, x3, x4, x5, x6, x7, x8⟩ := i1.2.2.2.2.2 (rd_k z) (by omega) (Int.le_refl _)
  have sm := me_as [119, 120, 124, 125, 126, 128, 129, 130, 146, 147, 148, 149, 150, 151] hF hS (by decide)
  have nn := i1.1
  refine ⟨⟨⟨rd_cg c1 sm, ?_, ?_, ?_, by omega, by omega, rs_Rt i7 hF hS rfl (fun f hf => ?_) (rs_Pf i7 hF hS rfl), fun f y0 y1 => ?_⟩, ?_, ?_⟩, ?_⟩
  · show wk_u Y = _
    omega
  · show wk_f Y = _
    omega
  · show rd_a z = _
    omega
  · obtain ⟨y1, y2, y3⟩ := hf
    refine ⟨y1, y2, ?_⟩
    show (if f = mi_a h 146 (rd_k z).toNat then wk_u Y else wk_x Y f) - wk_b Y f ≤ 61
    by_cases c : f = mi_a h 146 (rd_k z).toNat
    · rw [if_pos c, c, x7]
      omega
    · rw [if_neg c]
      exact y3
  · rw [sm 130 (by decide)]
    exact i9 f y0 (by omega)
  · show rd_k z - 1 = _
    omega
  · rw [sm 146 (by decide)]
    exact i11
  · rw [i10] at c2
    obtain ⟨y1, y2, y3, y4, y5, y6, y7, y8⟩ := c2
    unfold rd_loose
    simp only [sm 124 (by decide), sm 125 (by decide), sm 146 (by decide), sm 149 (by decide)]
    exact ⟨y1, y2, y3, y4, y5, y6, y7, y8⟩
end PLU
/-! reading: form -/
def fm_W : List (Nat × Nat) := [(13960, 13961), (13962, 13966), (14000, 14005), (14976, 14977), (15104, 15105), (15232, 16641), (18688, 19329)]
/-- what the flags say -/
def rs_F (h : sm_H) (zd zw zp : Int) : Prop := zd = 0 → (zw ≠ 0 → 0 ≤ mi_a h 150 (mi_f h 14003).toNat) ∧ (zp ≠ 0 → 0 ≤ mi_a h 149 (mi_f h 14003).toNat ∧ mi_a h 124 (mi_a h 149 (mi_f h 14003).toNat).toNat < 0)
def fm_q (zd : Int) : Int := if zd = 0 then 1 else 0
/-- at the loop's head -/
def fm_H (h0 h : sm_H) (zd zw zp : Int) : Prop := ab_Sh sx_sk h ∧ ab_Fr fm_W h0 h ∧ 0 ≤ mi_f h 13960 ∧ (mi_f h 13960 = 0 → mi_f h 14000 ≤ 241 ∧ rs_F h zd zw zp ∧ ∃ Y z, rs_I h Y z (fm_q zd))
def fm_Q (h0 : sm_H) (w : Option mi_V) (h' : sm_H) : Prop := w = none ∧ ab_Sh sx_sk h' ∧ ab_Fr fm_W h0 h' ∧ 0 ≤ mi_f h' 13960 ∧ (mi_f h' 13960 = 0 → mi_f h' 14000 ≤ 241 ∧ ∃ Y z, rs_B h' Y z 0)
/-- behind a scan -/
def fm_S (h0 h : sm_H) (zd zw zp : Int) : Prop := ab_Sh sx_sk h ∧ ab_Fr fm_W h0 h ∧ mi_f h 13960 = 0 ∧ sn_R h ∧ rs_F h zd zw zp ∧ ∃ Y z, rs_I h Y z (fm_q zd)
def fm_C (d : Nat) (h0 : sm_H) (zt : Int) : Prop := ∀ (zd zw zp zm : Int) (q6 q7 q8 : Option mi_V) (h : sm_H), mi_in zd → mi_in zw → mi_in zp → mi_in zm → (∀ v, q6 = some v → mi_ok v) → (∀ v, q7 = some v → mi_ok v) → (∀ v, q8 = some v → mi_ok v) → fm_H h0 h zd zw zp → me_E (d + 12) 186 22 [some (.inr (.inr 109)), some (.inl zd), some (.inl zw), some (.inl zp), some (.inl zm), some (.inl (zt + 1)), q6, q7, q8] [] h (fm_Q h0)
section FMP
variable {d : Nat} {h0 h : sm_H} {zd zw zp zm zt zb : Int} {q7 q8 : Option mi_V}
theorem fm_in0 : mi_in 0 := ⟨by decide, by decide⟩
theorem fm_in1 : mi_in 1 := ⟨by decide, by decide⟩
/-- blamed: on to the head -/
theorem fm_bl {h1 : sm_H} (hs : fm_S h0 h zd zw zp) (t1 : ab_Sh sx_sk h1) (t2 : ab_Fr [(13960, 13961)] h h1) (t3 : 0 < mi_f h1 13960) {a b c : Int} : fm_H h0 h1 a b c := ⟨t1, hs.2.1.trans (t2.wide (fun c hc => ab_swr_ok (by decide) hc)), by omega, fun x => by omega⟩
theorem fm_q0 : 0 ≤ fm_q zd := by
  unfold fm_q
  split <;> decide
theorem rs_weak {Y : wk_Y} {z : rd_Z} {q : Int} (hI : rs_B h Y z q) (q0 : 0 ≤ q) : rs_B h Y z 0 := by
  obtain ⟨i1, i2, i3, i4, i5, i6, i7, i9⟩ := hI
  exact ⟨i1, i2, i3, i4, by omega, i6, i7, i9⟩
theorem f126 {zg zn : Int} (hC : fm_C d h0 zt) (t0 : mi_in (zt + 1)) (ot : mi_in zt) (od : mi_in zd) (ow : mi_in zw) (op : mi_in zp) (om : mi_in zm) (ob : mi_in zb) (og : mi_in zg) (on : mi_in zn) (hS : ab_Sh sx_sk h) (hF : ab_Fr fm_W h0 h) (hf : 0 ≤ mi_f h 13960) (hz : mi_f h 13960 = 0 → mi_f h 14000 ≤ 241 ∧ (zg ≠ 0 → ∃ Y z, rs_I h Y z 0) ∧ (zg = 0 → 0 ≤ mi_a h 150 (mi_f h 14003).toNat ∧ (zb = 0 → 0 ≤ mi_a h 149 (mi_f h 14003).toNat ∧ mi_a h 124 (mi_a h 149 (mi_f h 14003).toNat).toNat < 0) ∧ ∃ Y z, rs_I h Y z 1)) : me_E (d + 12) 186 126 [some (.inr (.inr 109)), some (.inl zd), some (.inl zw), some (.inl zp), some (.inl zm), some (.inl zt), some (.inl zb), some (.inl zg), some (.inl zn)] [] h (fm_Q h0) := by
  refine mt_fmJ hS od ow op om ot ob og on ?_ ?_ ?_
  · intro c
    refine ⟨t0, fun h1 g1 g2 => ?_⟩
    have e := me_nil g2
    subst e
    refine hC zg 0 0 zm _ _ _ h1 og fm_in0 fm_in0 om (me_oi ob) (me_oi og) (me_oi on) ⟨hS, hF, hf, fun x => ?_⟩
    obtain ⟨y1, y2, y3⟩ := hz x
    refine ⟨y1, fun x => absurd x c, ?_⟩
    unfold fm_q
    rw [if_neg c]
    exact y2 c
  · intro c cb
    refine ⟨t0, fun h1 g1 g2 => ?_⟩
    have e := me_nil g2
    subst e
    refine hC zg 1 0 zm _ _ _ h1 og fm_in1 fm_in0 om (me_oi ob) (me_oi og) (me_oi on) ⟨hS, hF, hf, fun x => ?_⟩
    obtain ⟨y1, y2, y3⟩ := hz x
    obtain ⟨y4, y5, y6⟩ := y3 c
    refine ⟨y1, fun _ => ⟨fun _ => y4, fun x => absurd rfl x⟩, ?_⟩
    unfold fm_q
    rw [if_pos c]
    exact y6
  · intro c cb
    refine ⟨t0, fun h1 g1 g2 => ?_⟩
    have e := me_nil g2
    subst e
    refine hC zg 1 1 zm _ _ _ h1 og fm_in1 fm_in1 om (me_oi ob) (me_oi og) (me_oi on) ⟨hS, hF, hf, fun x => ?_⟩
    obtain ⟨y1, y2, y3⟩ := hz x
    obtain ⟨y4, y5, y6⟩ := y3 c
    refine ⟨y1, fun _ => ⟨fun _ => y4, fun _ => y5 cb⟩, ?_⟩
    unfold fm_q
    rw [if_pos c]
    exact y6
theorem f106 {zg zn : Int} (hC : fm_C d h0 zt) (t0 : mi_in (zt + 1)) (ot : mi_in zt) (od : mi_in zd) (ow : mi_in zw) (op : mi_in zp) (om : mi_in zm) (ob : mi_in zb) (og : mi_in zg) (on : mi_in zn) (hs : fm_S h0 h zd zw zp) (hb : zb = mi_a h 151 (mi_f h 14003).toNat) (k0 : mi_f h 14001 ≠ 0) (k6 : mi_f h 14001 ≠ 6) (kg : zg ≠ 0 ↔ mi_f h 14001 = 40) (kn : zn ≠ 0 → mi_f h 14001 = 1) : me_E (d + 12) 186 106 [some (.inr (.inr 109)), some (.inl zd), some (.inl zw), some (.inl zp), some (.inl zm), some (.inl zt), some (.inl zb), some (.inl zg), some (.inl zn)] [] h (fm_Q h0) := by
  obtain ⟨s1, s2, s3, s4, s5, Y, z, s6⟩ := hs
  refine mt_fmH s1 od ow op om ot ob og on (fun h1 g1 g2 => ?_)
  have e := me_nil g2
  subst e
  have at1 := s4.2.1 k0 k6
  refine ⟨_, me_part (d := d + 2) ⟨s6, fm_q0, s1, s4, s3⟩, fun w h2 oww hq => ?_⟩
  obtain ⟨rfl, p1, p2, p3, p4⟩ := hq
  have F2 : ab_Fr fm_W h0 h2 := s2.trans (p2.wide (fun c hc => ab_swr_ok (by decide) hc))
  have e0 : mi_f h2 14000 = mi_f h1 14000 := me_f (c := 14000) p2 s1 rfl rfl
  have on1 : mi_f h2 13960 = 0 → mi_f h2 14000 ≤ 241 ∧ (zg ≠ 0 → ∃ Y z, rs_I h2 Y z 0) ∧ (zg = 0 → 0 ≤ mi_a h2 150 (mi_f h2 14003).toNat ∧ (zb = 0 → 0 ≤ mi_a h2 149 (mi_f h2 14003).toNat ∧ mi_a h2 124 (mi_a h2 149 (mi_f h2 14003).toNat).toNat < 0) ∧ ∃ Y z, rs_I h2 Y z 1) := fun x => by
    obtain ⟨y1, y2⟩ := p4 x
    refine ⟨by omega, fun c => y1 (kg.mp c), fun c => ?_⟩
    obtain ⟨v1, v2, v3, v4, v5⟩ := y2 (fun c2 => absurd c (kg.mpr c2))
    exact ⟨v2, fun c3 => v3 (by rw [← hb]; exact c3), v5⟩
  refine mt_fmI p1 od ow op om ot ob og on ?_ ?_ ?_
  · intro c h3 g1 g2
    have e := me_nil g2
    subst e
    exact f126 hC t0 ot od ow op om ob og on p1 F2 p3 on1
  · intro b c c2 h3 g1 g2
    have e := me_nil g2
    subst e
    exact f126 hC t0 ot od ow op om ob og on p1 F2 p3 on1
  · intro b c c2 h3 g1 g2
    have e := me_nil g2
    subst e
    have k1 := kn c
    obtain ⟨-, y2⟩ := p4 c2
    obtain ⟨v1, v2, v3, v4, Y2, z2, v5⟩ := y2 (by omega)
    refine ⟨_, me_plus (d := d + 2) v5 p1 c2 (by omega) v1 (v4 k1), fun w h4 oww hq => ?_⟩
    obtain ⟨rfl, r1, r2, r3, r4⟩ := hq
    have e3 : mi_f h4 14003 = mi_f h3 14003 := me_f (c := 14003) r2 p1 rfl rfl
    refine f126 hC t0 ot od ow op om ob og on r1 (F2.trans (r2.wide (fun c hc => ab_swr_ok (by decide) hc))) r3 (fun x => ?_)
    obtain ⟨y1, y3⟩ := r4 x
    refine ⟨y1, fun c => by have := kg.mp c; omega, fun c => ⟨?_, fun c3 => ?_, Y2, z2, y3⟩⟩
    · rw [e3, me_a (k := 150) r2 p1 rfl rfl]
      exact v2
    · rw [e3, me_a (k := 149) r2 p1 rfl rfl, me_a (k := 124) r2 p1 rfl rfl]
      exact v3 (by rw [← hb]; exact c3)
theorem f424 {a m : Int} {h1 : sm_H} (hC : fm_C d h0 zt) (t0 : mi_in (zt + 1)) (ot : mi_in zt) (od : mi_in zd) (ow : mi_in zw) (op : mi_in zp) (om : mi_in m) (ob : mi_in zb) (o7 : (∀ v, q7 = some v → mi_ok v)) (o8 : (∀ v, q8 = some v → mi_ok v)) (hH : fm_H h0 h1 zd zw zp) : me_E (d + 12) 186 424 [some (.inr (.inr 109)), some (.inl zd), some (.inl zw), some (.inl zp), some (.inl m), some (.inl zt), some (.inl zb), q7, q8] [] h1 (fm_Q h0) := by
  refine mt_fmT hH.1 od ow op om ot ob o7 o8 ⟨t0, fun h2 g1 g2 => ?_⟩
  have e := me_nil g2
  subst e
  exact hC zd zw zp m _ _ _ h2 od ow op om (me_oi ob) o7 o8 hH
theorem f391 {a m : Int} {h1 : sm_H} (hC : fm_C d h0 zt) (t0 : mi_in (zt + 1)) (ot : mi_in zt) (od : mi_in zd) (ow : mi_in zw) (op : mi_in a) (om : mi_in zm) (ob : mi_in zb) (o7 : (∀ v, q7 = some v → mi_ok v)) (o8 : (∀ v, q8 = some v → mi_ok v)) (hH : fm_H h0 h1 zd 1 a) : me_E (d + 12) 186 391 [some (.inr (.inr 109)), some (.inl zd), some (.inl zw), some (.inl a), some (.inl zm), some (.inl zt), some (.inl zb), q7, q8] [] h1 (fm_Q h0) := by
  refine mt_fmS hH.1 od ow op om ot ob o7 o8 ⟨t0, fun h2 g1 g2 => ?_⟩
  have e := me_nil g2
  subst e
  exact hC zd 1 a zm _ _ _ h2 od fm_in1 op om (me_oi ob) o7 o8 hH
theorem f330 (hC : fm_C d h0 zt) (t0 : mi_in (zt + 1)) (ot : mi_in zt) (od : mi_in zd) (ow : mi_in zw) (op : mi_in zp) (om : mi_in zm) (ob : mi_in zb) (o7 : (∀ v, q7 = some v → mi_ok v)) (o8 : (∀ v, q8 = some v → mi_ok v)) (hs : fm_S h0 h zd zw zp) (hd : zd = 0) : me_E (d + 12) 186 330 [some (.inr (.inr 109)), some (.inl zd), some (.inl zw), some (.inl zp), some (.inl zm), some (.inl zt), some (.inl zb), q7, q8] [] h (fm_Q h0) := by
  obtain ⟨s1, s2, s3, s4, s5, Y, z, s6⟩ := id hs
  have bl : ∃ Q1, me_E (d + 11) 184 0 (mi_entry 3 [.inr (.inr 109), .inl 1, .inl (mi_f h 14002)]) [] h Q1 ∧ ∀ w h2, (∀ x, w = some x → mi_ok x) → Q1 w h2 → me_E (d + 12) 186 424 [some (.inr (.inr 109)), some (.inl zd), some (.inl zw), some (.inl zp), some (.inl 0), some (.inl zt), some (.inl zb), q7, q8] (mi_back w []) h2 (fm_Q h0) := by
    refine ⟨_, me_blame (d := d + 11) s1 (by decide) (by decide) (by have := s4.1; omega) (by have := s4.1; omega) (by omega), fun w h2 oww hq => ?_⟩
    obtain ⟨rfl, t1, t2, t3⟩ := hq
    exact f424 (a := 0) hC t0 ot od ow op fm_in0 ob o7 o8 (fm_bl hs t1 t2 t3)
  have cl : ∀ {v : Int}, mi_in v → mi_f h 14001 = 41 → 0 < mi_f h 14003 → (v ≠ 0 → mi_a h 151 (mi_f h 14003 - 1).toNat = 0) → ((0 ≤ mi_f h 14003 ∧ mi_f h 14003 < 6) ∧ (-2147483648 ≤ mi_f h 14003 - 1 ∧ mi_f h 14003 - 1 ≤ 2147483647) ∧ (0 ≤ mi_f h 14003 - 1 ∧ mi_f h 14003 - 1 ≤ 5) ∧ (0 ≤ mi_f h 14003 - 1 ∧ mi_f h 14003 - 1 < 6)) ∧ ∀ h1, ab_Sh sx_sk h1 → mi_f h1 14003 = mi_f h 14003 - 1 → ab_Fr [(14003, 14004)] h h1 → ∃ Q1, me_E (d + 11) 192 0 (mi_entry 2 [.inr (.inr 109), .inl (mi_a h 148 (mi_f h 14003).toNat)]) [] h1 Q1 ∧ ∀ w h2, (∀ x, w = some x → mi_ok x) → Q1 w h2 → me_E (d + 12) 186 391 [some (.inr (.inr 109)), some (.inl zd), some (.inl zw), some (.inl v), some (.inl zm), some (.inl zt), some (.inl zb), some (.inl (mi_a h 148 (mi_f h 14003).toNat)), q8] (mi_back w []) h2 (fm_Q h0) := fun {v} ov c1 c2 cv => by
    have L0 := (rs_lev s6 s1).1
    refine ⟨⟨⟨by omega, by omega⟩, ⟨by omega, by omega⟩, ⟨by omega, by omega⟩, ⟨by omega, by omega⟩⟩, fun h1 g1 g2 g3 => ?_⟩
    obtain ⟨c3, c4⟩ := rs_close s6 s1 c2 g3 g2
    have L1 := rs_lev c3 g1
    obtain ⟨⟨l1, l2⟩, -, l3, l4, l5, l6, -⟩ := L1
    have u0 := c4.1
    have u1 : mi_a h 148 (mi_f h 14003).toNat < wk_u Y := c4.2.1
    have nU := s6.1.1.1.2.1
    refine ⟨_, me_put (d := d + 11) g1 u0 (by omega) (by omega) l5 l6 l4, fun w h2 oww hq => ?_⟩
    obtain ⟨rfl, p1, p2, p3⟩ := hq
    obtain ⟨r1, r2, r3⟩ := rs_put c3 g1 c4 p2 p3
    have ef : mi_f h2 13960 = 0 := ((me_f (c := 13960) p2 g1 rfl rfl).trans (me_f (c := 13960) g3 s1 rfl rfl)).trans s3
    have ea : mi_f h2 14000 = mi_f h 14000 := (me_f (c := 14000) p2 g1 rfl rfl).trans (me_f (c := 14000) g3 s1 rfl rfl)
    have at1 := s4.2.1 (by omega) (by omega)
    refine f391 (m := 0) hC t0 ot od ow ov om ob (me_oi ⟨by omega, by omega⟩) o8 ⟨p1, (s2.trans (g3.wide (fun c hc => ab_swr_ok (by decide) hc))).trans (p2.wide (fun c hc => ab_swr_ok (by decide) hc)), by omega, fun _ => ⟨by omega, fun _ => ⟨fun _ => r2, fun x => r3 ?_⟩, _, _, r1⟩⟩
    rw [g2, me_a (k := 151) g3 s1 rfl rfl]
    exact cv x
  refine mt_fmR s1 od ow op om ot ob o7 o8 ?_ ?_ ?_ ?_ ?_ ?_ ?_
  · intro b c1 c2 h1 g1 g2
    have e := me_nil g2
    subst e
    exact bl
  · intro b b2 c1 c2 c3
    refine ⟨t0, fun h1 g1 g2 => ?_⟩
    have e := me_nil g2
    subst e
    have at1 := s4.2.1 (by omega) (by omega)
    exact hC zd zw zp 0 _ _ _ h1 od ow op fm_in0 (me_oi ob) o7 o8 ⟨s1, s2, by omega, fun _ => ⟨at1, s5, Y, z, s6⟩⟩
  · intro b b2 c1 c2 c3 h1 g1 g2
    have e := me_nil g2
    subst e
    exact bl
  · intro b b2 c1 c2 c3 h1 g1 g2
    have e := me_nil g2
    subst e
    exact bl
  · intro b b2 c1 c2 c3
    exfalso
    omega
  · intro b b2 c1 c2 c3
    exact cl fm_in0 c1 c2 (fun x => absurd rfl x)
  · intro b b2 c1 c2 c3
    exact cl fm_in1 c1 c2 (fun _ => c3)
theorem f277 (hC : fm_C d h0 zt) (t0 : mi_in (zt + 1)) (ot : mi_in zt) (od : mi_in zd) (ow : mi_in zw) (op : mi_in zp) (om : mi_in zm) (ob : mi_in zb) (o7 : (∀ v, q7 = some v → mi_ok v)) (o8 : (∀ v, q8 = some v → mi_ok v)) (hs : fm_S h0 h zd zw zp) (hd : zd = 0) : me_E (d + 12) 186 277 [some (.inr (.inr 109)), some (.inl zd), some (.inl zw), some (.inl zp), some (.inl zm), some (.inl zt), some (.inl zb), q7, q8] [] h (fm_Q h0) := by
  obtain ⟨s1, s2, s3, s4, s5, Y, z, s6⟩ := id hs
  have q1 : fm_q zd = 1 := if_pos hd
  rw [q1] at s6
  obtain ⟨⟨l1, l2⟩, ⟨l3, l4, l5⟩, l6, l7, -⟩ := rs_lev s6 s1
  refine mt_fmO s1 od ow op om ot ob o7 o8 ?_ ?_ ?_
  · intro b c h1 g1 g2
    have e := me_nil g2
    subst e
    exact f330 hC t0 ot od ow op om ob o7 o8 hs hd
  · intro b b2 c c2
    refine ⟨⟨⟨by omega, by omega⟩, ⟨by omega, by omega⟩⟩, fun h1 g1 g2 => ?_⟩
    have e := me_nil g2
    subst e
    have cc := s6.1.2.2.2.2.2.2.2 _ l3 l5
    have bA := s6.1.2.2.2.2.1
    have bU := me_fb (c := 13963) s1 rfl
    have bR := me_fb (c := 13961) s1 rfl
    refine ⟨_, me_begin (d := d + 11) s1 ⟨by have := s4.1; omega, by have := s4.1; omega⟩ (by omega) (by omega) l3 l4 cc (fun _ => l7), fun w h2 oww hq => ?_⟩
    obtain ⟨rfl, p1, p2, p3⟩ := hq
    obtain ⟨z', r1⟩ := rs_begin s6 s1 c2 p2 p3
    have ea : mi_f h2 14000 = mi_f h1 14000 := me_f (c := 14000) p2 s1 rfl rfl
    have ef : mi_f h2 13960 = 0 := (me_f (c := 13960) p2 s1 rfl rfl).trans s3
    have at1 := s4.2.1 (by omega) (by omega)
    refine mt_fmQ p1 od ow op om ot ob o7 o8 ⟨t0, fun h3 g1 g2 => ?_⟩
    have e := me_nil g2
    subst e
    exact hC 1 zw zp zm _ _ _ h3 fm_in1 ow op om (me_oi ob) o7 o8 ⟨p1, s2.trans (p2.wide (fun c hc => ab_swr_ok (by decide) hc)), by omega, fun _ => ⟨by omega, fun x => absurd x (by decide), Y, z', r1⟩⟩
  · intro b b2 c c2
    refine ⟨⟨⟨by omega, by omega⟩, ⟨by omega, by omega⟩⟩, fun h1 g1 g2 => ?_⟩
    have e := me_nil g2
    subst e
    refine ⟨_, me_blame (d := d + 11) s1 (by decide) (by decide) (by have := s4.1; omega) (by have := s4.1; omega) (by omega), fun w h2 oww hq => ?_⟩
    obtain ⟨rfl, t1, t2, t3⟩ := hq
    refine mt_fmP t1 od ow op om ot ob o7 o8 ⟨t0, fun h3 g1 g2 => ?_⟩
    have e := me_nil g2
    subst e
    exact hC 1 zw zp zm _ _ _ h3 fm_in1 ow op om (me_oi ob) o7 o8 (fm_bl hs t1 t2 t3)
theorem f245 (hC : fm_C d h0 zt) (t0 : mi_in (zt + 1)) (ot : mi_in zt) (od : mi_in zd) (ow : mi_in zw) (op : mi_in zp) (om : mi_in zm) (ob : mi_in zb) (o7 : (∀ v, q7 = some v → mi_ok v)) (o8 : (∀ v, q8 = some v → mi_ok v)) (hs : fm_S h0 h zd zw zp) (hd : zd = 0) : me_E (d + 12) 186 245 [some (.inr (.inr 109)), some (.inl zd), some (.inl zw), some (.inl zp), some (.inl zm), some (.inl zt), some (.inl zb), q7, q8] [] h (fm_Q h0) := by
  obtain ⟨s1, s2, s3, s4, s5, Y, z, s6⟩ := id hs
  have q1 : fm_q zd = 1 := if_pos hd
  rw [q1] at s6
  refine mt_fmN s1 od ow op om ot ob o7 o8 ?_ ?_ ?_
  · intro b c h1 g1 g2
    have e := me_nil g2
    subst e
    exact f277 hC t0 ot od ow op om ob o7 o8 hs hd
  · intro b c c2 h1 g1 g2
    have e := me_nil g2
    subst e
    exact f277 hC t0 ot od ow op om ob o7 o8 hs hd
  · intro b b2 c c2
    refine ⟨⟨⟨by omega, by omega⟩, t0⟩, fun h1 g1 g2 g3 => ?_⟩
    obtain ⟨x1, x2⟩ := (s5 hd).2 c2
    have r1 := rs_swap s6 s1 g3 (fun i hi => by rw [g2, if_neg hi]) x1 x2
    have ea : mi_f h1 14000 = mi_f h 14000 := me_f (c := 14000) g3 s1 rfl rfl
    have ef : mi_f h1 13960 = 0 := (me_f (c := 13960) g3 s1 rfl rfl).trans s3
    have at1 := s4.2.1 (by omega) (by omega)
    exact hC 1 0 0 zm _ _ _ h1 fm_in1 fm_in0 fm_in0 om (me_oi ob) o7 o8 ⟨g1, s2.trans (g3.wide (fun c hc => ab_swr_ok (by decide) hc)), by omega, fun _ => ⟨by omega, fun x => absurd x (by decide), Y, z, r1⟩⟩
theorem f175 (hC : fm_C d h0 zt) (t0 : mi_in (zt + 1)) (ot : mi_in zt) (od : mi_in zd) (ow : mi_in zw) (op : mi_in zp) (om : mi_in zm) (ob : mi_in zb) (o7 : (∀ v, q7 = some v → mi_ok v)) (o8 : (∀ v, q8 = some v → mi_ok v)) (hs : fm_S h0 h zd zw zp) (hd : zd = 0) : me_E (d + 12) 186 175 [some (.inr (.inr 109)), some (.inl zd), some (.inl zw), some (.inl zp), some (.inl zm), some (.inl zt), some (.inl zb), q7, q8] [] h (fm_Q h0) := by
  obtain ⟨s1, s2, s3, s4, s5, Y, z, s6⟩ := id hs
  obtain ⟨⟨l1, l2⟩, -, -, -, -, -, l8, -⟩ := rs_lev s6 s1
  have wr : ∀ {h1 : sm_H}, mi_f h 14001 ≠ 0 → mi_f h 14001 ≠ 6 → zw ≠ 0 → ab_Sh sx_sk h1 → ab_Fr [(15616, 15617), (15744, 15745)] h h1 → me_E (d + 12) 186 22 [some (.inr (.inr 109)), some (.inl zd), some (.inl 0), some (.inl zp), some (.inl zm), some (.inl (zt + 1)), some (.inl zb), some (.inl (mi_a h 150 (mi_f h 14003).toNat)), q8] [] h1 (fm_Q h0) := fun {h1} c0 c6 cw g1 g3 => by
    have ea : mi_f h1 14000 = mi_f h 14000 := me_f (c := 14000) g3 s1 rfl rfl
    have ef : mi_f h1 13960 = 0 := (me_f (c := 13960) g3 s1 rfl rfl).trans s3
    have e3 : mi_f h1 14003 = mi_f h 14003 := me_f (c := 14003) g3 s1 rfl rfl
    have at1 := s4.2.1 c0 c6
    have x0 := (s5 hd).1 cw
    refine hC zd 0 zp zm _ _ _ h1 od fm_in0 op om (me_oi ob) (me_oi ⟨by omega, by omega⟩) o8 ⟨g1, s2.trans (g3.wide (fun c hc => ab_swr_ok (by decide) hc)), by omega, fun _ => ⟨by omega, fun _ => ⟨fun x => absurd rfl x, fun x => ?_⟩, Y, z, rs_fr s6 s1 g3 (by decide)⟩⟩
    rw [e3, me_a (k := 149) g3 s1 rfl rfl, me_a (k := 124) g3 s1 rfl rfl]
    exact (s5 hd).2 x
  refine mt_fmM s1 od ow op om ot ob o7 o8 ?_ ?_ ?_ ?_ ?_
  · intro b c c2 h1 g1 g2
    have e := me_nil g2
    subst e
    exact f245 hC t0 ot od ow op om ob o7 o8 hs hd
  · intro b b2 c c2
    have x0 := (s5 hd).1 c2
    refine ⟨⟨⟨by omega, by omega⟩, ⟨by omega, by omega⟩, t0⟩, fun h1 g1 g2 g3 g4 => wr (by omega) (by omega) c2 g1 g4⟩
  · intro b c c2 h1 g1 g2
    have e := me_nil g2
    subst e
    exact f245 hC t0 ot od ow op om ob o7 o8 hs hd
  · intro b c c2 c3 h1 g1 g2
    have e := me_nil g2
    subst e
    exact f245 hC t0 ot od ow op om ob o7 o8 hs hd
  · intro b b2 c c2 c3
    have x0 := (s5 hd).1 c3
    refine ⟨⟨⟨by omega, by omega⟩, ⟨by omega, by omega⟩, t0⟩, fun h1 g1 g2 g3 g4 => wr (by omega) (by omega) c3 g1 g4⟩
theorem f159 (hC : fm_C d h0 zt) (t0 : mi_in (zt + 1)) (ot : mi_in zt) (od : mi_in zd) (ow : mi_in zw) (op : mi_in zp) (om : mi_in zm) (ob : mi_in zb) (o7 : (∀ v, q7 = some v → mi_ok v)) (o8 : (∀ v, q8 = some v → mi_ok v)) (hs : fm_S h0 h zd zw zp) : me_E (d + 12) 186 159 [some (.inr (.inr 109)), some (.inl zd), some (.inl zw), some (.inl zp), some (.inl zm), some (.inl zt), some (.inl zb), q7, q8] [] h (fm_Q h0) := by
  have s1 := hs.1
  have s4 := hs.2.2.2.1
  have s3 := hs.2.2.1
  refine mt_fmK s1 od ow op om ot ob o7 o8 ?_ ?_
  · intro c h1 g1 g2
    have e := me_nil g2
    subst e
    exact f175 hC t0 ot od ow op om ob o7 o8 hs c
  · intro c h1 g1 g2
    have e := me_nil g2
    subst e
    refine ⟨_, me_blame (d := d + 11) s1 (by decide) (by decide) (by have := s4.1; omega) (by have := s4.1; omega) (by omega), fun w h2 oww hq => ?_⟩
    obtain ⟨rfl, t1, t2, t3⟩ := hq
    refine mt_fmL t1 od ow op om ot ob o7 o8 ⟨t0, fun h3 g1 g2 => ?_⟩
    have e := me_nil g2
    subst e
    exact hC zd zw zp zm _ _ _ h3 od ow op om (me_oi ob) o7 o8 (fm_bl hs t1 t2 t3)
theorem f46 {q6 : Option mi_V} (hC : fm_C d h0 zt) (t0 : mi_in (zt + 1)) (ot : mi_in zt) (od : mi_in zd) (ow : mi_in zw) (op : mi_in zp) (om : mi_in zm) (o6 : (∀ v, q6 = some v → mi_ok v)) (o7 : (∀ v, q7 = some v → mi_ok v)) (o8 : (∀ v, q8 = some v → mi_ok v)) (hs : fm_S h0 h zd zw zp) : me_E (d + 12) 186 46 [some (.inr (.inr 109)), some (.inl zd), some (.inl zw), some (.inl zp), some (.inl zm), some (.inl zt), q6, q7, q8] [] h (fm_Q h0) := by
  have s1 := hs.1
  have b3 := me_fb (c := 14003) s1 rfl
  have bb := me_ab (k := 151) (i := (mi_f h 14003).toNat) s1 rfl (by decide) (by omega)
  have ob : mi_in (mi_a h 151 (mi_f h 14003).toNat) := ⟨by omega, by omega⟩
  refine mt_fmD s1 od ow op om ot o6 o7 o8 ?_
  intro b
  refine ⟨⟨by omega, by omega⟩, fun h1 g1 g2 => ?_⟩
  have e := me_nil g2
  subst e
  refine ⟨_, me_isPart (d := d + 10) s1, fun w h2 oww hq => ?_⟩
  obtain ⟨rfl, v, rfl, v0, v1, v2⟩ := hq
  refine mt_fmE (zz := v) s1 od ow op om ot ob ⟨by omega, by omega⟩ o7 o8 ?_ ?_ ?_
  · intro c h3 g1 g2
    have e := me_nil g2
    subst e
    exact f159 hC t0 ot od ow op om ob o7 o8 hs
  · intro b c c2 h3 g1 g2
    have e := me_nil g2
    subst e
    obtain ⟨k0, k6⟩ := v2 c
    refine mt_fmF s1 od ow op om ot ob fm_in0 o8 ?_ ?_
    · intro b c3 h4 g1 g2
      have e := me_nil g2
      subst e
      exact f106 hC t0 ot od ow op om ob fm_in0 fm_in0 hs rfl k0 k6 ⟨fun x => absurd rfl x, fun x => absurd x c2⟩ (fun x => absurd rfl x)
    · intro b c3 h4 g1 g2
      have e := me_nil g2
      subst e
      refine ⟨_, me_sortOf (d := d + 11) s1, fun w h5 oww hq => ?_⟩
      obtain ⟨rfl, y, rfl, y0, y1⟩ := hq
      refine mt_fmG (zz := y) s1 od ow op om ot ob fm_in0 ⟨by omega, by omega⟩ o8 ?_ ?_
      · intro c4 h6 g1 g2
        have e := me_nil g2
        subst e
        exact f106 hC t0 ot od ow op om ob fm_in0 fm_in0 hs rfl k0 k6 ⟨fun x => absurd rfl x, fun x => absurd x c2⟩ (fun x => absurd rfl x)
      · intro c4 h6 g1 g2
        have e := me_nil g2
        subst e
        exact f106 hC t0 ot od ow op om ob fm_in0 fm_in1 hs rfl k0 k6 ⟨fun x => absurd rfl x, fun x => absurd x c2⟩ (fun _ => c3)
  · intro b c c2 h3 g1 g2
    have e := me_nil g2
    subst e
    obtain ⟨k0, k6⟩ := v2 c
    refine mt_fmF s1 od ow op om ot ob fm_in1 o8 ?_ ?_
    · intro b c3 h4 g1 g2
      have e := me_nil g2
      subst e
      exact f106 hC t0 ot od ow op om ob fm_in1 fm_in0 hs rfl k0 k6 ⟨fun _ => c2, fun _ => by decide⟩ (fun x => absurd rfl x)
    · intro b c3 h4 g1 g2
      exfalso
      omega
theorem fm_loop : ∀ (N : Nat) (zt zd zw zp zm : Int) (q6 q7 q8 : Option mi_V) (h : sm_H), 300 - zt < N → 0 ≤ zt → zt ≤ 300 → mi_in zd → mi_in zw → mi_in zp → mi_in zm → (∀ v, q6 = some v → mi_ok v) → (∀ v, q7 = some v → mi_ok v) → (∀ v, q8 = some v → mi_ok v) → fm_H h0 h zd zw zp → me_E (d + 12) 186 22 [some (.inr (.inr 109)), some (.inl zd), some (.inl zw), some (.inl zp), some (.inl zm), some (.inl zt), q6, q7, q8] [] h (fm_Q h0) := by
  intro N
  induction N with
  | zero => intro zt zd zw zp zm q6 q7 q8 h hN t0 t1; exfalso; omega
  | succ N ih =>
    intro zt zd zw zp zm q6 q7 q8 h hN t0 t1 od ow op om o6 o7 o8 hH
    obtain ⟨s1, s2, s3, s4⟩ := id hH
    have ot : mi_in zt := ⟨by omega, by omega⟩
    have fin : ∀ h1, ab_Sh sx_sk h1 → ab_Fr [] h h1 → fm_Q h0 none h1 := fun h1 g1 g2 => by
      have e := me_nil g2
      subst e
      refine ⟨rfl, s1, s2, s3, fun x => ?_⟩
      obtain ⟨y1, y2, Y, z, y3⟩ := s4 x
      exact ⟨y1, Y, z, rs_weak y3.1 fm_q0⟩
    refine mt_fmC s1 od ow op om ot o6 o7 o8 ?_ ?_ ?_ ?_
    · intro c
      exact fin
    · intro c c2
      exact fin
    · intro b c c2 c3
      exact fin
    · intro b c c2 c3 h1 g1 g2
      have e := me_nil g2
      subst e
      obtain ⟨y1, y2, Y, z, y3⟩ := s4 c3
      refine ⟨_, me_scan (d := d + 9) s1 y1, fun w h2 oww hq => ?_⟩
      obtain ⟨rfl, r1, r2, r3⟩ := hq
      have e3 : mi_f h2 14003 = mi_f h1 14003 := me_f (c := 14003) r2 s1 rfl rfl
      have ef : mi_f h2 13960 = 0 := (me_f (c := 13960) r2 s1 rfl rfl).trans c3
      refine f46 (zt := zt) (fun zd zw zp zm q6 q7 q8 h od ow op om o6 o7 o8 hH => ih (zt + 1) zd zw zp zm q6 q7 q8 h (by omega) (by omega) (by omega) od ow op om o6 o7 o8 hH) ⟨by omega, by omega⟩ ot od ow op om o6 o7 o8 ⟨r1, s2.trans (r2.wide (fun c hc => ab_swr_ok (by decide) hc)), ef, r3, ?_, Y, z, rs_fr y3 s1 r2 (by decide)⟩
      intro x
      rw [e3, me_a (k := 150) r2 s1 rfl rfl, me_a (k := 149) r2 s1 rfl rfl, me_a (k := 124) r2 s1 rfl rfl]
      exact y2 x
end FMP
/-! reading: form from its begin, readRule, read -/
/-- what form is begun with -/
def fm_P (h : sm_H) (Y : wk_Y) (z : rd_Z) : Prop :=
  rd_J (mi_a h) Y z 0 ∧ rd_k z = 0 ∧ wk_u Y = mi_f h 13963 ∧ wk_f Y = mi_f h 13965 ∧ rd_a z = mi_f h 13964 ∧ mi_f h 13964 + 1 ≤ mi_f h 13963 + mi_f h 13961 ∧ mi_f h 13965 ≤ mi_f h 13963 + mi_f h 13961 ∧ rs_R h Y ∧ (∀ f, 0 ≤ f → f < mi_f h 13965 → mi_a h 130 f.toNat ≤ 6) ∧ mi_a h 130 (mi_a h 146 0).toNat = 0 ∧ wk_b Y (mi_a h 146 0) < wk_u Y
section FMR
variable {d : Nat} {h0 h : sm_H} {Y : wk_Y} {z : rd_Z}
theorem me_form (hS0 : ab_Sh sx_sk h0) (hf : mi_f h0 13960 = 0) (ha : mi_f h0 14000 ≤ 241) (hP : fm_P h0 Y z) : me_E (d + 12) 186 0 [some (.inr (.inr 109)), none, none, none, none, none, none, none, none] [] h0 (fm_Q h0) := by
  have bU := me_fb (c := 13963) hS0 rfl
  have bR := me_fb (c := 13961) hS0 rfl
  obtain ⟨j1, j2, j3, j4, j5, j6, j7, j8, j9, j10, j11⟩ := hP
  obtain ⟨⟨f0, f1, -⟩, -⟩ := j1.2.2.2.2.1 0 (Int.le_refl _) (by omega)
  have f0 : 0 ≤ mi_a h0 146 0 := f0
  have f1 : mi_a h0 146 0 < wk_f Y := f1
  refine mt_fmA hS0 (fun h1 g1 g2 g3 => ?_)
  have a1 : ∀ j, j ∈ [115, 119, 120, 124, 125, 126, 128, 129, 130, 146, 147, 148, 149, 150, 151] → ∀ i, mi_a h1 j i = mi_a h0 j i := me_as _ g3 hS0 (by decide)
  have e64 : mi_f h1 13964 = mi_f h0 13964 := me_f (c := 13964) g3 hS0 rfl rfl
  have e146 := a1 146 (by decide)
  have e130 := a1 130 (by decide)
  have z0 : (mi_f h1 14003).toNat = 0 := by rw [g2]; rfl
  have ch : mi_a h1 130 (mi_a h1 146 (mi_f h1 14003).toNat).toNat = 0 := by rw [z0, e146, e130]; exact j10
  refine ⟨_, me_begin (d := d + 11) (zp := 0) g1 fm_in0 (by omega) (by omega) (by rw [z0, e146]; exact f0) (by rw [z0, e146]; have := j1.1; omega) (by rw [ch]; decide) (fun c => absurd ch c), fun w h2 oww hq => ?_⟩
  obtain ⟨rfl, t1, t2, t3, t4, t5, t6, t7, t8, t9, t10, t11⟩ := hq
  rw [z0] at t5 t6 t7 t8 t9 t10 t11
  rw [e64] at t3 t4 t5 t6 t8
  have kz : (rd_k z).toNat = 0 := by rw [j2]; rfl
  have F2 : ab_Fr fm_W h0 h2 := (g3.wide (fun c hc => ab_swr_ok (by decide) hc)).trans (t2.wide (fun c hc => ab_swr_ok (by decide) hc))
  have BG := rd_begin (g := mi_a h0) (g' := mi_a h2) j1 (by omega) (by omega) (fun j hj i => (me_as [115, 119, 120, 124, 125, 146, 148] t2 g1 (by decide) j hj i).trans (me_as [115, 119, 120, 124, 125, 146, 148] g3 hS0 (by decide) j hj i))
    (fun i => by rw [t4, a1 126 (by decide), j5])
    (fun i => by rw [t5, e130, e146, a1 147 (by decide), a1 128 (by decide), kz, j5])
    (fun i => by rw [t6, e130, e146, a1 129 (by decide), kz, j5])
    (fun i => by rw [t7, e146, e130, kz])
    (fun i => by rw [t8, a1 147 (by decide), kz, j5])
    (fun i => by rw [t9, a1 149 (by decide), kz])
    (fun i => by rw [t10, a1 150 (by decide), kz])
    (fun i => by rw [t11, a1 151 (by decide), kz])
  have e61 : mi_f h2 13961 = mi_f h0 13961 := me_f (c := 13961) F2 hS0 rfl rfl
  have e63 : mi_f h2 13963 = mi_f h0 13963 := (me_f (c := 13963) t2 g1 rfl rfl).trans (me_f (c := 13963) g3 hS0 rfl rfl)
  have e65 : mi_f h2 13965 = mi_f h0 13965 := (me_f (c := 13965) t2 g1 rfl rfl).trans (me_f (c := 13965) g3 hS0 rfl rfl)
  have e3 : mi_f h2 14003 = 0 := (me_f (c := 14003) t2 g1 rfl rfl).trans g2
  have ef : mi_f h2 13960 = 0 := ((me_f (c := 13960) t2 g1 rfl rfl).trans (me_f (c := 13960) g3 hS0 rfl rfl)).trans hf
  have ea : mi_f h2 14000 = mi_f h0 14000 := (me_f (c := 14000) t2 g1 rfl rfl).trans (me_f (c := 14000) g3 hS0 rfl rfl)
  have g146 : ∀ i, mi_a h2 146 i = mi_a h0 146 i := fun i => (me_a (k := 146) t2 g1 rfl rfl).trans (e146 i)
  have F3 : ab_Fr [(13964, 13965), (14003, 14004), (16128, 16641), (18816, 19329)] h0 h2 := (g3.wide (fun c hc => ab_swr_ok (by decide) hc)).trans (t2.wide (fun c hc => ab_swr_ok (by decide) hc))
  refine mt_fmB t1 (fun h3 g4 g5 => ?_)
  have e := me_nil g5
  subst e
  refine fm_loop (d := d) 302 0 1 0 0 1 none none none h3 (by decide) (by decide) (by decide) fm_in1 fm_in0 fm_in0 fm_in1 me_on me_on me_on ⟨t1, F2, by omega, fun _ => ⟨by omega, fun x => absurd x (by decide), Y, _, ⟨BG, by omega, by omega, ?_, ?_, by omega, rs_Rt j8 F2 hS0 rfl (fun _ x => x) (rs_Pf j8 F3 hS0 rfl), fun f x0 x1 => ?_⟩, ?_, ?_⟩⟩
  · show rd_a z + 1 = _
    omega
  · show mi_f h3 13964 + 0 ≤ _
    omega
  · rw [t7, e146, e130]
    by_cases c : f.toNat = (mi_a h0 146 0).toNat
    · rw [if_pos c, c, j10]
      decide
    · rw [if_neg c]
      exact j9 f x0 (by omega)
  · show rd_k z = _
    omega
  · rw [g146]
    exact j11
def rr_W : List (Nat × Nat) := [(13960, 13966), (14000, 14005), (14464, 14721), (14976, 14977), (15104, 15105), (15232, 16641), (18688, 19329)]
def rr_Q (h0 : sm_H) (w : Option mi_V) (h' : sm_H) : Prop := w = none ∧ ab_Sh sx_sk h' ∧ ab_Fr rr_W h0 h' ∧ 0 ≤ mi_f h' 13960 ∧ (mi_f h' 13960 = 0 → mi_f h' 14000 ≤ 241 ∧ 1 ≤ mi_f h' 13961 ∧ ∃ Y z, rs_B h' Y z 0)
theorem rs_Bfr {h h' : sm_H} {q : Int} {wr : List (Nat × Nat)} (hI : rs_B h Y z q) (hS : ab_Sh sx_sk h) (hF : ab_Fr wr h h') (hw : rs_c.all (fun c => !ab_in wr c) = true) : rs_B h' Y z q := by
  have n : ∀ c, c ∈ rs_c → ab_in wr c = false := fun c hc => by
    have := List.all_eq_true.mp hw c hc
    rwa [Bool.not_eq_true'] at this
  obtain ⟨i1, i2, i3, i4, i5, i6, i7, i9⟩ := hI
  have f61 : mi_f h' 13961 = mi_f h 13961 := me_f hF hS rfl (n _ (by decide))
  have f63 : mi_f h' 13963 = mi_f h 13963 := me_f hF hS rfl (n _ (by decide))
  have f64 : mi_f h' 13964 = mi_f h 13964 := me_f hF hS rfl (n _ (by decide))
  have f65 : mi_f h' 13965 = mi_f h 13965 := me_f hF hS rfl (n _ (by decide))
  have al : ∀ j, (mx_isA sx_sk j || mx_isB sx_sk j) = true → j * 128 ∈ rs_c → ∀ i, mi_a h' j i = mi_a h j i := fun j h1 h2 i => me_a hF hS h1 (n _ h2)
  refine ⟨rd_cg i1 (fun j hj i => ?_), by omega, by omega, by omega, by omega, by omega, rs_Rt i7 hF hS ?_ (fun _ x => x) (rs_Pf i7 hF hS ?_), fun f x0 x1 => ?_⟩
  · simp only [List.mem_cons, List.not_mem_nil, or_false] at hj
    rcases hj with rfl | rfl | rfl | rfl | rfl | rfl | rfl | rfl | rfl | rfl | rfl | rfl | rfl | rfl <;> exact al _ rfl (by decide) i
  · rw [n 13961 (by decide), n 14592 (by decide), n 14720 (by decide)]
    rfl
  · rw [n 13963 (by decide), n 15488 (by decide)]
    rfl
  · rw [al 130 rfl (by decide)]
    exact i9 f x0 (by omega)
theorem rr_bl {h1 : sm_H} (hF : ab_Fr rr_W h0 h) (t1 : ab_Sh sx_sk h1) (t2 : ab_Fr [(13960, 13961)] h h1) (t3 : 0 < mi_f h1 13960) : rr_Q h0 none h1 := ⟨rfl, t1, hF.trans (t2.wide (fun c hc => ab_swr_ok (by decide) hc)), by omega, fun x => by omega⟩
theorem rr68 {zp zn : Int} (hI : rs_B h Y z 0) (hS : ab_Sh sx_sk h) (hF : ab_Fr rr_W h0 h) (hf : mi_f h 13960 = 0) (hR : sn_R h) (r10 : mi_f h 13961 ≠ 10) (p0 : 0 ≤ zp) (p1 : zp ≤ 241) (n0 : 0 ≤ zn) (n1 : zn < 26) : me_E (d + 14) 183 68 [some (.inr (.inr 109)), some (.inl zp), some (.inl zn)] [] h (rr_Q h0) := by
  have op : mi_in zp := ⟨by omega, by omega⟩
  have on : mi_in zn := ⟨by omega, by omega⟩
  have bU := me_fb (c := 13963) hS rfl
  have bF := me_fb (c := 13965) hS rfl
  have bR := me_fb (c := 13961) hS rfl
  obtain ⟨i1, i2, i3, i4, i5, i6, i7, i9⟩ := hI
  refine mt_rrC hS op on ?_ ?_
  · intro b b2 c
    refine ⟨⟨⟨by omega, by omega⟩, ⟨by omega, by omega⟩, ⟨by omega, by omega⟩⟩, fun h1 g1 g2 g3 g4 g5 => ?_⟩
    have eF1 : mi_f h1 13965 = mi_f h 13965 := me_f (c := 13965) g5 hS rfl rfl
    have eR1 : mi_f h1 13961 = mi_f h 13961 := me_f (c := 13961) g5 hS rfl rfl
    refine ⟨_, me_newForm (d := d + 13) g1 (by omega), fun w h2 oww hq => ?_⟩
    obtain ⟨rfl, p2, p3, p4, p5, p6⟩ := hq
    have eR2 : mi_f h2 13961 = mi_f h 13961 := (me_f (c := 13961) p3 g1 rfl rfl).trans eR1
    refine mt_rrD (zz := mi_f h1 13965) (z0 := 0) p2 op on ⟨by omega, by omega⟩ fm_in0 ?_
    intro b3
    refine ⟨⟨⟨by omega, by omega⟩, ⟨by omega, by omega⟩, ⟨by omega, by omega⟩, ⟨by rw [if_pos rfl]; omega, by rw [if_pos rfl]; omega⟩, ⟨by omega, by omega⟩, ⟨by omega, by omega⟩⟩, fun h3 r1 r2 r3 r4 r5 => ?_⟩
    have F3a : ab_Fr [(13961, 13962), (13965, 13966), (14003, 14004), (14464, 14721), (16512, 16513), (16640, 16641), (18688, 18689)] h h3 := ((g5.wide (fun c hc => ab_swr_ok (by decide) hc)).trans (p3.wide (fun c hc => ab_swr_ok (by decide) hc))).trans (r5.wide (fun c hc => ab_swr_ok (by decide) hc))
    have ef3 : mi_f h3 13960 = 0 := (me_f (c := 13960) F3a hS rfl rfl).trans hf
    have ea3 : mi_f h3 14000 = mi_f h 14000 := me_f (c := 14000) F3a hS rfl rfl
    have eU3 : mi_f h3 13963 = mi_f h 13963 := me_f (c := 13963) F3a hS rfl rfl
    have eA3 : mi_f h3 13964 = mi_f h 13964 := me_f (c := 13964) F3a hS rfl rfl
    have eF3 : mi_f h3 13965 = mi_f h 13965 + 1 := by rw [me_f (c := 13965) r5 p2 rfl rfl, p4, eF1]
    have eR3 : mi_f h3 13961 = mi_f h 13961 + 1 := by rw [r2, eR2]
    have G129 : ∀ i, mi_a h3 129 i = if i = (mi_f h 13965).toNat then -1 else mi_a h 129 i := fun i => by rw [me_a (k := 129) r5 p2 rfl rfl, p5, eF1, me_a (k := 129) g5 hS rfl rfl]
    have G130 : ∀ i, mi_a h3 130 i = if i = (mi_f h 13965).toNat then 0 else mi_a h 130 i := fun i => by rw [me_a (k := 130) r5 p2 rfl rfl, p6, eF1, me_a (k := 130) g5 hS rfl rfl]
    have G146 : mi_a h3 146 0 = mi_f h 13965 := by rw [r4, if_pos (show 0 = Int.toNat 0 from rfl), eF1]
    have G114 : ∀ i, mi_a h3 114 i = if i = (mi_f h 13961).toNat then mi_f h 13965 else mi_a h 114 i := fun i => by rw [r3, if_pos rfl, eF1, eR2, me_a (k := 114) p3 g1 rfl rfl, me_a (k := 114) g5 hS rfl rfl]
    have G115 : ∀ i, mi_a h3 115 i = if i = zn.toNat then mi_f h 13961 else mi_a h 115 i := fun i => by rw [me_a (k := 115) r5 p2 rfl rfl, me_a (k := 115) p3 g1 rfl rfl, g4]
    obtain ⟨J, LR⟩ := rd_rule (g' := mi_a h3) i1 (by omega) (me_as _ F3a hS (by decide)) (fun i => by rw [i3]; exact G129 i) (fun i => by rw [i3]; exact G130 i) (by rw [G146, i3])
    have at1 := hR.2.1 (by omega) (by omega)
    refine ⟨_, me_form (d := d + 1) (Y := rd_yr Y) (z := rd_zr z) r1 ef3 (by omega) ⟨J, rfl, ?_, ?_, ?_, by omega, by omega, ⟨fun r x0 x1 => ?_, fun n hn => ?_, ?_⟩, fun f x0 x1 => ?_, ?_, ?_⟩, fun w h4 oww hq => ?_⟩
    · show wk_u Y = _
      omega
    · show wk_f Y + 1 = _
      omega
    · show rd_a z = _
      omega
    · rw [G114]
      by_cases c2 : r.toNat = (mi_f h 13961).toNat
      · rw [if_pos c2, ← i3]
        exact LR
      · rw [if_neg c2]
        obtain ⟨y1, y2, y3⟩ := i7.1 r x0 (by omega)
        refine ⟨y1, ?_, ?_⟩
        · show _ < wk_f Y + 1
          omega
        · show (if mi_a h 114 r.toNat = wk_f Y then 60 else wk_x Y (mi_a h 114 r.toNat)) - (if mi_a h 114 r.toNat = wk_f Y then wk_u Y - 1 else wk_b Y (mi_a h 114 r.toNat)) ≤ 61
          rw [if_neg (by omega), if_neg (by omega)]
          exact y3
    · rw [G115, eR3]
      have := i7.2.1 n hn
      split <;> omega
    · exact rs_Pf i7 F3a hS rfl
    · rw [G130]
      by_cases c2 : f.toNat = (mi_f h 13965).toNat
      · rw [if_pos c2]
        decide
      · rw [if_neg c2]
        exact i9 f x0 (by omega)
    · rw [G146, G130, if_pos rfl]
    · show (if mi_a h3 146 0 = wk_f Y then wk_u Y - 1 else wk_b Y (mi_a h3 146 0)) < wk_u Y
      rw [if_pos (by omega)]
      omega
    · obtain ⟨rfl, v1, v2, v3, v4⟩ := hq
      refine mt_rr151 v1 op on (fun h5 u1 u2 => ?_)
      have e := me_nil u2
      subst e
      have eR5 : mi_f h5 13961 = mi_f h3 13961 := me_f (c := 13961) v2 r1 rfl rfl
      refine ⟨rfl, v1, (hF.trans (F3a.wide (fun c hc => ab_swr_ok (by decide) hc))).trans (v2.wide (fun c hc => ab_swr_ok (by decide) hc)), v3, fun x => ?_⟩
      obtain ⟨y1, y2⟩ := v4 x
      exact ⟨y1, by omega, y2⟩
  · intro b c h1 g1 g2
    have e := me_nil g2
    subst e
    refine ⟨_, me_blame (d := d + 13) hS (by decide) (by decide) (by have := hR.1; omega) (by have := hR.1; omega) (by omega), fun w h2 oww hq => ?_⟩
    obtain ⟨rfl, t1, t2, t3⟩ := hq
    refine mt_rr86 t1 op on (fun h3 g1 g2 => ?_)
    have e := me_nil g2
    subst e
    exact rr_bl hF t1 t2 t3
theorem me_rule (hI : rs_B h Y z 0) (hS : ab_Sh sx_sk h) (hf : mi_f h 13960 = 0) (hR : sn_R h) : me_E (d + 14) 183 0 [some (.inr (.inr 109)), none, none] [] h (rr_Q h) := by
  have bp := hR.1
  have op : mi_in (mi_f h 14002) := ⟨by omega, by omega⟩
  refine mt_rrA hS ?_ ?_
  · intro b c h1 g1 g2
    have e := me_nil g2
    subst e
    obtain ⟨n0, n1⟩ := hR.2.2.1 c
    have on : mi_in ((mx_l h1 14004).toInt32.toInt) := ⟨by omega, by omega⟩
    have bl : ∀ f : Int, 1 ≤ f → f ≤ 9 → ∃ Q1, me_E (d + 13) 184 0 (mi_entry 3 [.inr (.inr 109), .inl f, .inl (mi_f h1 14002)]) [] h1 Q1 ∧ ∀ w h2, (∀ x, w = some x → mi_ok x) → Q1 w h2 → me_E (d + 14) 183 63 [some (.inr (.inr 109)), some (.inl (mi_f h1 14002)), some (.inl ((mx_l h1 14004).toInt32.toInt))] (mi_back w []) h2 (rr_Q h1) := fun f f1 f2 => by
      refine ⟨_, me_blame (d := d + 13) hS f1 f2 (by omega) (by omega) (by omega), fun w h2 oww hq => ?_⟩
      obtain ⟨rfl, t1, t2, t3⟩ := hq
      refine mt_rr63 t1 op on (fun h3 g1 g2 => ?_)
      have e := me_nil g2
      subst e
      exact rr_bl ab_Fr.refl t1 t2 t3
    refine mt_rrB hS op on ?_ ?_ ?_
    · intro c2
      refine ⟨⟨n0, n1⟩, fun h3 g1 g2 => ?_⟩
      have e := me_nil g2
      subst e
      exact bl 2 (by decide) (by decide)
    · intro b2 c2 c3
      refine ⟨⟨n0, n1⟩, fun h3 g1 g2 => ?_⟩
      have e := me_nil g2
      subst e
      refine ⟨_, me_scan (d := d + 11) hS (hR.2.1 (by omega) (by omega)), fun w h4 oww hq => ?_⟩
      obtain ⟨rfl, r1, r2, r3⟩ := hq
      have eR : mi_f h4 13961 = mi_f h3 13961 := me_f (c := 13961) r2 hS rfl rfl
      have ef : mi_f h4 13960 = 0 := (me_f (c := 13960) r2 hS rfl rfl).trans hf
      exact rr68 (rs_Bfr hI hS r2 (by decide)) r1 (r2.wide (fun c hc => ab_swr_ok (by decide) hc)) ef r3 (by omega) bp.1 bp.2 n0 n1
    · intro b2 c2 c3
      refine ⟨⟨n0, n1⟩, fun h3 g1 g2 => ?_⟩
      have e := me_nil g2
      subst e
      exact bl 3 (by decide) (by decide)
  · intro b c h1 g1 g2
    have e := me_nil g2
    subst e
    have x1 := (mx_l h1 14004).toInt32.le_toInt
    have x2 := (mx_l h1 14004).toInt32.toInt_lt
    refine ⟨_, me_blame (d := d + 13) hS (by decide) (by decide) (by omega) (by omega) (by omega), fun w h2 oww hq => ?_⟩
    obtain ⟨rfl, t1, t2, t3⟩ := hq
    refine mt_rr25 t1 op ⟨by omega, by omega⟩ (fun h3 g1 g2 => ?_)
    have e := me_nil g2
    subst e
    exact rr_bl ab_Fr.refl t1 t2 t3
end FMR
/-! reading: read -/
section REA
variable {h0 h : sm_H}
/-- at the end: the laws -/
theorem re_end {Y : wk_Y} {z : rd_Z} (hI : rs_B h Y z 0) (hS : ab_Sh sx_sk h) (h1 : 1 ≤ mi_f h 13961) (hu : ∀ u, 0 ≤ u → u < mi_f h 13963 → mi_a h 119 u.toNat = 9 → 0 ≤ mi_a h 115 (mi_a h 120 u.toNat).toNat) : ∃ Y, sy_L h Y ∧ wk_Lrule Y (mi_a h 114 0) := by
  have bR := me_fb (c := 13961) hS rfl
  obtain ⟨i1, i2, i3, i4, i5, i6, i7, i9⟩ := hI
  have lw : wk_L (mi_a h) Y := rd_L i1 (fun u x0 x1 x9 => by
    obtain ⟨y1, y2⟩ := (i1.2.1 u x0 x1).2.2.2.1 x9
    have v0 := hu u x0 (by omega) x9
    have v1 := i7.2.1 (mi_a h 120 u.toNat).toNat (by omega)
    exact ⟨v0, by omega, i7.1 _ v0 v1⟩)
  refine ⟨Y, ⟨lw, i2, i3, fun a x0 x1 => ?_, fun r x0 x1 => ?_⟩, i7.1 0 (Int.le_refl _) (by omega)⟩
  · rcases i1.2.2.2.1 a x0 (by omega) with x | x
    · exact Or.inl x
    · exact Or.inr x.1
  · obtain ⟨y1, y2, -⟩ := i7.1 r x0 x1
    exact ⟨y1, y2⟩
/-- the last loop: over the uses -/
def re_U (h0 h : sm_H) (zt : Int) : Prop := ab_Sh sx_sk h ∧ ab_Fr mj_W h0 h ∧ 0 ≤ mi_f h 13960 ∧ (mi_f h 13960 = 0 → 1 ≤ mi_f h 13961 ∧ (∃ Y z, rs_B h Y z 0) ∧ ∀ u, 0 ≤ u → u < zt → u < mi_f h 13963 → mi_a h 119 u.toNat = 9 → 0 ≤ mi_a h 115 (mi_a h 120 u.toNat).toNat)
theorem re117 : ∀ (N : Nat) (zm zt : Int) (h : sm_H), 60 - zt < N → 0 ≤ zt → zt ≤ 60 → mi_in zm → re_U h0 h zt → me_E 59 176 117 [some (.inr (.inr 109)), some (.inl zm), some (.inl zt)] [] h (rd_Q h0) := by
  intro N
  induction N with
  | zero => intro zm zt h hN t0 t1; exfalso; omega
  | succ N ih =>
    intro zm zt h hN t0 t1 om hH
    obtain ⟨s1, s2, s3, s4⟩ := hH
    have ot : mi_in zt := ⟨by omega, by omega⟩
    refine mt_reF (d := 43) s1 om ot ?_ ?_ ?_ ?_ ?_
    · intro b c h1 g1 g2
      have e := me_nil g2
      subst e
      refine ⟨rfl, s1, s2, fun x => ?_⟩
      obtain ⟨y1, ⟨Y, z, y2⟩, y3⟩ := s4 (by omega)
      exact re_end y2 s1 y1 (fun u x0 x1 x9 => y3 u x0 (by omega) x1 x9)
    · intro b b2 c c2 h1 g1 g2
      have e := me_nil g2
      subst e
      exact ⟨rfl, s1, s2, fun x => by omega⟩
    · intro b b2 c c2 c3
      refine ⟨⟨⟨by omega, by omega⟩, ⟨by omega, by omega⟩⟩, fun h1 g1 g2 => ?_⟩
      have e := me_nil g2
      subst e
      refine ih zm (zt + 1) h1 (by omega) (by omega) (by omega) om ⟨s1, s2, s3, fun x => ?_⟩
      obtain ⟨y1, y2, y3⟩ := s4 x
      refine ⟨y1, y2, fun u x0 x1 x2 x9 => ?_⟩
      by_cases e : u = zt
      · rw [e] at x9
        exact absurd x9 c3
      · exact y3 u x0 (by omega) x2 x9
    · intro b b2 c c2 c3 c4
      obtain ⟨y1, ⟨Y, z, y2⟩, y3⟩ := s4 c2
      have w4 := (y2.1.2.1 zt t0 (by have := y2.2.1; omega)).2.2.2.1 c3
      refine ⟨⟨⟨by omega, by omega⟩, w4, ⟨by omega, by omega⟩⟩, fun h1 g1 g2 => ?_⟩
      have e := me_nil g2
      subst e
      refine ih zm (zt + 1) h1 (by omega) (by omega) (by omega) om ⟨s1, s2, s3, fun x => ⟨y1, ⟨Y, z, y2⟩, fun u x0 x1 x2 x9 => ?_⟩⟩
      by_cases e : u = zt
      · rw [e]
        exact c4
      · exact y3 u x0 (by omega) x2 x9
    · intro b b2 c c2 c3 c4
      obtain ⟨y1, ⟨Y, z, y2⟩, y3⟩ := s4 c2
      have w4 := (y2.1.2.1 zt t0 (by have := y2.2.1; omega)).2.2.2.1 c3
      have w5 := y2.2.2.2.2.2.2.1.2.2 zt t0 c
      refine ⟨⟨⟨by omega, by omega⟩, w4⟩, fun h1 g1 g2 => ?_⟩
      have e := me_nil g2
      subst e
      refine ⟨_, me_blame (d := 58) s1 (by decide) (by decide) (by omega) (by omega) (by omega), fun w h2 oww hq => ?_⟩
      obtain ⟨rfl, v1, v2, v3⟩ := hq
      refine mt_reG (d := 43) v1 om ot ⟨⟨by omega, by omega⟩, fun h3 g1 g2 => ?_⟩
      have e := me_nil g2
      subst e
      exact ih zm (zt + 1) h3 (by omega) (by omega) (by omega) om ⟨v1, s2.trans (v2.wide (fun c hc => ab_swr_ok (by decide) hc)), by omega, fun x => by omega⟩
/-- the loop over the rules -/
def re_H (h0 h : sm_H) (zm zt : Int) : Prop := ab_Sh sx_sk h ∧ ab_Fr mj_W h0 h ∧ 0 ≤ mi_f h 13960 ∧ (mi_f h 13960 = 0 → (zm ≠ 0 → mi_f h 14000 ≤ 241) ∧ (1 ≤ mi_f h 13961 ∨ (zt = 0 ∧ zm ≠ 0)) ∧ ∃ Y z, rs_B h Y z 0)
theorem re60 : ∀ (N : Nat) (zm zt : Int) (h : sm_H), 12 - zt < N → 0 ≤ zt → zt ≤ 12 → mi_in zm → re_H h0 h zm zt → me_E 59 176 60 [some (.inr (.inr 109)), some (.inl zm), some (.inl zt)] [] h (rd_Q h0) := by
  intro N
  induction N with
  | zero => intro zm zt h hN t0 t1; exfalso; omega
  | succ N ih =>
    intro zm zt h hN t0 t1 om hH
    obtain ⟨s1, s2, s3, s4⟩ := hH
    have ot : mi_in zt := ⟨by omega, by omega⟩
    have fin : (mi_f h 13960 = 0 → 1 ≤ mi_f h 13961) → ∀ h1, ab_Sh sx_sk h1 → ab_Fr [] h h1 → me_E 59 176 117 [some (.inr (.inr 109)), some (.inl zm), some (.inl 0)] [] h1 (rd_Q h0) := fun hr h1 g1 g2 => by
      have e := me_nil g2
      subst e
      refine re117 62 zm 0 h1 (by decide) (by decide) (by decide) om ⟨s1, s2, s3, fun x => ?_⟩
      obtain ⟨y1, y2, y3⟩ := s4 x
      exact ⟨hr x, y3, fun u x0 x1 => by omega⟩
    refine mt_reC (d := 43) s1 om ot ?_ ?_ ?_ ?_
    · intro c
      exact fin (fun x => by obtain ⟨y1, y2, y3⟩ := s4 x; omega)
    · intro c c2
      exact fin (fun x => by obtain ⟨y1, y2, y3⟩ := s4 x; omega)
    · intro b c c2 c3
      exact fin (fun x => by omega)
    · intro b c c2 c3 h1 g1 g2
      have e := me_nil g2
      subst e
      obtain ⟨y1, y2, Y, z, y3⟩ := s4 c3
      refine ⟨_, me_scan (d := 56) s1 (y1 c2), fun w h2 oww hq => ?_⟩
      obtain ⟨rfl, r1, r2, r3⟩ := hq
      have ef : mi_f h2 13960 = 0 := (me_f (c := 13960) r2 s1 rfl rfl).trans c3
      have F2 : ab_Fr mj_W h0 h2 := s2.trans (r2.wide (fun c hc => ab_swr_ok (by decide) hc))
      have B2 := rs_Bfr y3 s1 r2 (by decide)
      have ru : ∃ Q1, me_E 58 183 0 (mi_entry 3 [.inr (.inr 109)]) [] h2 Q1 ∧ ∀ w h3, (∀ x, w = some x → mi_ok x) → Q1 w h3 → me_E 59 176 109 [some (.inr (.inr 109)), some (.inl 1), some (.inl zt)] (mi_back w []) h3 (rd_Q h0) := by
        refine ⟨_, me_rule (d := 44) B2 r1 ef r3, fun w h3 oww hq => ?_⟩
        obtain ⟨rfl, v1, v2, v3, v4⟩ := hq
        refine mt_reE (d := 43) v1 fm_in1 ot ⟨⟨by omega, by omega⟩, fun h4 g1 g2 => ?_⟩
        have e := me_nil g2
        subst e
        refine ih 1 (zt + 1) h4 (by omega) (by omega) (by omega) fm_in1 ⟨v1, F2.trans (v2.wide (fun c hc => ab_swr_ok (by decide) hc)), v3, fun x => ?_⟩
        obtain ⟨x1, x2, x3⟩ := v4 x
        exact ⟨fun _ => x1, Or.inl x2, x3⟩
      refine mt_reD (d := 43) r1 om ot ?_ ?_ ?_
      · intro b c h3 g1 g2
        have e := me_nil g2
        subst e
        exact ru
      · intro b b2 c4 c5
        refine ⟨⟨by omega, by omega⟩, fun h3 g1 g2 => ?_⟩
        have e := me_nil g2
        subst e
        exact ih 0 (zt + 1) h3 (by omega) (by omega) (by omega) fm_in0 ⟨r1, F2, by omega, fun _ => ⟨fun x => absurd rfl x, Or.inl (by omega), Y, z, B2⟩⟩
      · intro b b2 c4 c5 h3 g1 g2
        have e := me_nil g2
        subst e
        exact ru
def re_Y0 : wk_Y := (fun _ => 0, fun _ => 0, fun _ => 0, fun _ => 0, fun _ => 0, 0, 0)
def re_Z0 : rd_Z := (fun _ => 0, fun _ => 0, 0, -1)
theorem re_I0 (g : wk_g) : rd_I g re_Y0 re_Z0 1 := by
  refine ⟨⟨by decide, by decide, by decide, by decide, by decide, by decide, by decide⟩, fun u h0 h1 => ?_, fun f h0 h1 => ?_, fun a h0 h1 => ?_, fun i h0 h1 => ?_, fun i h0 h1 => ?_⟩
  · have h1 : u < 0 := h1
    omega
  · have h1 : f < 0 := h1
    omega
  · have h1 : a < 0 := h1
    omega
  · have h1 : i ≤ -1 := h1
    omega
  · have h1 : i ≤ -1 := h1
    omega
def re_A (h0 h : sm_H) (zk : Int) : Prop := ab_Sh sx_sk h ∧ ab_Fr mj_W h0 h ∧ (mi_f h 13960 = 0 ∧ mi_f h 13961 = 0 ∧ mi_f h 13963 = 0 ∧ mi_f h 13964 = 0 ∧ mi_f h 13965 = 0 ∧ mi_f h 14000 = 0) ∧ ∀ n : Nat, (n : Int) < zk → mi_a h 115 n = -1
theorem re37 : ∀ (N : Nat) (zk : Int) (h : sm_H), 26 - zk < N → 0 ≤ zk → zk ≤ 26 → re_A h0 h zk → me_E 59 176 37 [some (.inr (.inr 109)), some (.inl zk), none] [] h (rd_Q h0) := by
  intro N
  induction N with
  | zero => intro zk h hN t0 t1; exfalso; omega
  | succ N ih =>
    intro zk h hN t0 t1 hH
    obtain ⟨s1, s2, ⟨a1, a2, a3, a4, a5, a6⟩, s4⟩ := hH
    have ok : mi_in zk := ⟨by omega, by omega⟩
    refine mt_reB (d := 43) s1 ok ?_ ?_
    · intro c h1 g1 g2
      have e := me_nil g2
      subst e
      refine re60 14 1 0 h1 (by decide) (by decide) (by decide) fm_in1 ⟨s1, s2, by omega, fun _ => ⟨fun _ => by omega, Or.inr ⟨rfl, by decide⟩, re_Y0, re_Z0, re_I0 _, ?_, ?_, ?_, by omega, by omega, ⟨fun r x0 x1 => by omega, fun n hn => ?_, fun u x0 x1 => by omega⟩, fun f x0 x1 => by omega⟩⟩
      · show (0 : Int) = _
        omega
      · show (0 : Int) = _
        omega
      · show (0 : Int) = _
        omega
      · rw [s4 n (by omega)]
        omega
    · intro c
      refine ⟨⟨⟨by omega, by omega⟩, ⟨by omega, by omega⟩⟩, fun h1 g1 g2 g3 => ?_⟩
      refine ih (zk + 1) h1 (by omega) (by omega) (by omega) ⟨g1, s2.trans (g3.wide (fun c hc => ab_swr_ok (by decide) hc)), ⟨?_, ?_, ?_, ?_, ?_, ?_⟩, fun n hn => ?_⟩
      · rw [me_f (c := 13960) g3 s1 rfl rfl, a1]
      · rw [me_f (c := 13961) g3 s1 rfl rfl, a2]
      · rw [me_f (c := 13963) g3 s1 rfl rfl, a3]
      · rw [me_f (c := 13964) g3 s1 rfl rfl, a4]
      · rw [me_f (c := 13965) g3 s1 rfl rfl, a5]
      · rw [me_f (c := 14000) g3 s1 rfl rfl, a6]
      · rw [g2]
        by_cases c2 : n = zk.toNat
        · rw [if_pos c2]
        · rw [if_neg c2]
          exact s4 n (by omega)
end REA
theorem rd_ok : rd_Ok := fun h hS => by
  refine mt_reA (d := 43) hS (fun h1 g1 g2 g3 g4 g5 g6 g7 g8 g9 => ?_)
  exact re37 28 0 h1 (by decide) (by decide) (by decide) ⟨g1, g9.wide (fun c hc => ab_swr_ok (by decide) hc), ⟨g2, g3, g5, g6, g7, g8⟩, fun n hn => by omega⟩
