/-! the reference's read leaves all texts and trees as they were; compile drops the trees on both sides -/
def mr_V : List (Nat × Nat) := [(13956, 14015), (14018, 14080), (14464, 19840), (21120, 21761)]
def rd_Qfn (h : sm_H) (w : Option mi_V) (h' : sm_H) : Prop := w = none ∧ ab_Sh sx_sk h' ∧ ab_Fr mr_V h h' ∧ (mi_f h' 13960 ≤ 0 → ∃ Y, sy_L h' Y ∧ wk_Lrule Y (mi_a h' 114 0))
def rd_Okfn : Prop := ∀ h, ab_Sh sx_sk h → me_E 59 176 0 [some (.inr (.inr 109)), none, none] [] h (rd_Qfn h)
section REA
variable {h0 h : sm_H}
/-- the last loop: over the uses -/
def re_Ufn (h0 h : sm_H) (zt : Int) : Prop := ab_Sh sx_sk h ∧ ab_Fr mr_V h0 h ∧ 0 ≤ mi_f h 13960 ∧ (mi_f h 13960 = 0 → 1 ≤ mi_f h 13961 ∧ (∃ Y z, rs_B h Y z 0) ∧ ∀ u, 0 ≤ u → u < zt → u < mi_f h 13963 → mi_a h 119 u.toNat = 9 → 0 ≤ mi_a h 115 (mi_a h 120 u.toNat).toNat)
theorem re117fn : ∀ (N : Nat) (zm zt : Int) (h : sm_H), 60 - zt < N → 0 ≤ zt → zt ≤ 60 → mi_in zm → re_Ufn h0 h zt → me_E 59 176 117 [some (.inr (.inr 109)), some (.inl zm), some (.inl zt)] [] h (rd_Qfn h0) := by
  intro N
  induction N with
  | zero => intro zm zt h hN t0 t1; exfalso; omega
  | succ N ih =>
    intro zm zt h hN t0 t1 om hH
    obtain ⟨s1, s2, s3, s4⟩ := hH
    have ot : mi_in zt := ⟨by omega, by omega⟩
    refine mt_reF (d := 43) s1 om ot ?_ ?_ ?_ ?_ ?_
    · intro b c h1 g1 g2
      have e := me_nil g2
      subst e
      refine ⟨rfl, s1, s2, fun x => ?_⟩
      obtain ⟨y1, ⟨Y, z, y2⟩, y3⟩ := s4 (by omega)
      exact re_end y2 s1 y1 (fun u x0 x1 x9 => y3 u x0 (by omega) x1 x9)
    · intro b b2 c c2 h1 g1 g2
      have e := me_nil g2
      subst e
      exact ⟨rfl, s1, s2, fun x => by omega⟩
    · intro b b2 c c2 c3
      refine ⟨⟨⟨by omega, by omega⟩, ⟨by omega, by omega⟩⟩, fun h1 g1 g2 => ?_⟩
      have e := me_nil g2
      subst e
      refine ih zm (zt + 1) h1 (by omega) (by omega) (by omega) om ⟨s1, s2, s3, fun x => ?_⟩
      obtain ⟨y1, y2, y3⟩ := s4 x
      refine ⟨y1, y2, fun u x0 x1 x2 x9 => ?_⟩
      by_cases e : u = zt
      · rw [e] at x9
        exact absurd x9 c3
      · exact y3 u x0 (by omega) x2 x9
    · intro b b2 c c2 c3 c4
      obtain ⟨y1, ⟨Y, z, y2⟩, y3⟩ := s4 c2
      have w4 := (y2.1.2.1 zt t0 (by have := y2.2.1; omega)).2.2.2.1 c3
      refine ⟨⟨⟨by omega, by omega⟩, w4, ⟨by omega, by omega⟩⟩, fun h1 g1 g2 => ?_⟩
      have e := me_nil g2
      subst e
      refine ih zm (zt + 1) h1 (by omega) (by omega) (by omega) om ⟨s1, s2, s3, fun x => ⟨y1, ⟨Y, z, y2⟩, fun u x0 x1 x2 x9 => ?_⟩⟩
      by_cases e : u = zt
      · rw [e]
        exact c4
      · exact y3 u x0 (by omega) x2 x9
    · intro b b2 c c2 c3 c4
      obtain ⟨y1, ⟨Y, z, y2⟩, y3⟩ := s4 c2
      have w4 := (y2.1.2.1 zt t0 (by have := y2.2.1; omega)).2.2.2.1 c3
      have w5 := y2.2.2.2.2.2.2.1.2.2 zt t0 c
      refine ⟨⟨⟨by omega, by omega⟩, w4⟩, fun h1 g1 g2 => ?_⟩
      have e := me_nil g2
      subst e
      refine ⟨_, me_blame (d := 58) s1 (by decide) (by decide) (by omega) (by omega) (by omega), fun w h2 oww hq => ?_⟩
      obtain ⟨rfl, v1, v2, v3⟩ := hq
      refine mt_reG (d := 43) v1 om ot ⟨⟨by omega, by omega⟩, fun h3 g1 g2 => ?_⟩
      have e := me_nil g2
      subst e
      exact ih zm (zt + 1) h3 (by omega) (by omega) (by omega) om ⟨v1, s2.trans (v2.wide (fun c hc => ab_swr_ok (by decide) hc)), by omega, fun x => by omega⟩
/-- the loop over the rules -/
def re_Hfn (h0 h : sm_H) (zm zt : Int) : Prop := ab_Sh sx_sk h ∧ ab_Fr mr_V h0 h ∧ 0 ≤ mi_f h 13960 ∧ (mi_f h 13960 = 0 → (zm ≠ 0 → mi_f h 14000 ≤ 241) ∧ (1 ≤ mi_f h 13961 ∨ (zt = 0 ∧ zm ≠ 0)) ∧ ∃ Y z, rs_B h Y z 0)
theorem re60fn : ∀ (N : Nat) (zm zt : Int) (h : sm_H), 12 - zt < N → 0 ≤ zt → zt ≤ 12 → mi_in zm → re_Hfn h0 h zm zt → me_E 59 176 60 [some (.inr (.inr 109)), some (.inl zm), some (.inl zt)] [] h (rd_Qfn h0) := by
  intro N
  induction N with
  | zero => intro zm zt h hN t0 t1; exfalso; omega
  | succ N ih =>
    intro zm zt h hN t0 t1 om hH
    obtain ⟨s1, s2, s3, s4⟩ := hH
    have ot : mi_in zt := ⟨by omega, by omega⟩
    have fin : (mi_f h 13960 = 0 → 1 ≤ mi_f h 13961) → ∀ h1, ab_Sh sx_sk h1 → ab_Fr [] h h1 → me_E 59 176 117 [some (.inr (.inr 109)), some (.inl zm), some (.inl 0)] [] h1 (rd_Qfn h0) := fun hr h1 g1 g2 => by
      have e := me_nil g2
      subst e
      refine re117fn 62 zm 0 h1 (by decide) (by decide) (by decide) om ⟨s1, s2, s3, fun x => ?_⟩
      obtain ⟨y1, y2, y3⟩ := s4 x
      exact ⟨hr x, y3, fun u x0 x1 => by omega⟩
    refine mt_reC (d := 43) s1 om ot ?_ ?_ ?_ ?_
    · intro c
      exact fin (fun x => by obtain ⟨y1, y2, y3⟩ := s4 x; omega)
    · intro c c2
      exact fin (fun x => by obtain ⟨y1, y2, y3⟩ := s4 x; omega)
    · intro b c c2 c3
      exact fin (fun x => by omega)
    · intro b c c2 c3 h1 g1 g2
      have e := me_nil g2
      subst e
      obtain ⟨y1, y2, Y, z, y3⟩ := s4 c3
      refine ⟨_, me_scan (d := 56) s1 (y1 c2), fun w h2 oww hq => ?_⟩
      obtain ⟨rfl, r1, r2, r3⟩ := hq
      have ef : mi_f h2 13960 = 0 := (me_f (c := 13960) r2 s1 rfl rfl).trans c3
      have F2 : ab_Fr mr_V h0 h2 := s2.trans (r2.wide (fun c hc => ab_swr_ok (by decide) hc))
      have B2 := rs_Bfr y3 s1 r2 (by decide)
      have ru : ∃ Q1, me_E 58 183 0 (mi_entry 3 [.inr (.inr 109)]) [] h2 Q1 ∧ ∀ w h3, (∀ x, w = some x → mi_ok x) → Q1 w h3 → me_E 59 176 109 [some (.inr (.inr 109)), some (.inl 1), some (.inl zt)] (mi_back w []) h3 (rd_Qfn h0) := by
        refine ⟨_, me_rule (d := 44) B2 r1 ef r3, fun w h3 oww hq => ?_⟩
        obtain ⟨rfl, v1, v2, v3, v4⟩ := hq
        refine mt_reE (d := 43) v1 fm_in1 ot ⟨⟨by omega, by omega⟩, fun h4 g1 g2 => ?_⟩
        have e := me_nil g2
        subst e
        refine ih 1 (zt + 1) h4 (by omega) (by omega) (by omega) fm_in1 ⟨v1, F2.trans (v2.wide (fun c hc => ab_swr_ok (by decide) hc)), v3, fun x => ?_⟩
        obtain ⟨x1, x2, x3⟩ := v4 x
        exact ⟨fun _ => x1, Or.inl x2, x3⟩
      refine mt_reD (d := 43) r1 om ot ?_ ?_ ?_
      · intro b c h3 g1 g2
        have e := me_nil g2
        subst e
        exact ru
      · intro b b2 c4 c5
        refine ⟨⟨by omega, by omega⟩, fun h3 g1 g2 => ?_⟩
        have e := me_nil g2
        subst e
        exact ih 0 (zt + 1) h3 (by omega) (by omega) (by omega) fm_in0 ⟨r1, F2, by omega, fun _ => ⟨fun x => absurd rfl x, Or.inl (by omega), Y, z, B2⟩⟩
      · intro b b2 c4 c5 h3 g1 g2
        have e := me_nil g2
        subst e
        exact ru
def re_Afn (h0 h : sm_H) (zk : Int) : Prop := ab_Sh sx_sk h ∧ ab_Fr mr_V h0 h ∧ (mi_f h 13960 = 0 ∧ mi_f h 13961 = 0 ∧ mi_f h 13963 = 0 ∧ mi_f h 13964 = 0 ∧ mi_f h 13965 = 0 ∧ mi_f h 14000 = 0) ∧ ∀ n : Nat, (n : Int) < zk → mi_a h 115 n = -1
theorem re37fn : ∀ (N : Nat) (zk : Int) (h : sm_H), 26 - zk < N → 0 ≤ zk → zk ≤ 26 → re_Afn h0 h zk → me_E 59 176 37 [some (.inr (.inr 109)), some (.inl zk), none] [] h (rd_Qfn h0) := by
  intro N
  induction N with
  | zero => intro zk h hN t0 t1; exfalso; omega
  | succ N ih =>
    intro zk h hN t0 t1 hH
    obtain ⟨s1, s2, ⟨a1, a2, a3, a4, a5, a6⟩, s4⟩ := hH
    have ok : mi_in zk := ⟨by omega, by omega⟩
    refine mt_reB (d := 43) s1 ok ?_ ?_
    · intro c h1 g1 g2
      have e := me_nil g2
      subst e
      refine re60fn 14 1 0 h1 (by decide) (by decide) (by decide) fm_in1 ⟨s1, s2, by omega, fun _ => ⟨fun _ => by omega, Or.inr ⟨rfl, by decide⟩, re_Y0, re_Z0, re_I0 _, ?_, ?_, ?_, by omega, by omega, ⟨fun r x0 x1 => by omega, fun n hn => ?_, fun u x0 x1 => by omega⟩, fun f x0 x1 => by omega⟩⟩
      · show (0 : Int) = _
        omega
      · show (0 : Int) = _
        omega
      · show (0 : Int) = _
        omega
      · rw [s4 n (by omega)]
        omega
    · intro c
      refine ⟨⟨⟨by omega, by omega⟩, ⟨by omega, by omega⟩⟩, fun h1 g1 g2 g3 => ?_⟩
      refine ih (zk + 1) h1 (by omega) (by omega) (by omega) ⟨g1, s2.trans (g3.wide (fun c hc => ab_swr_ok (by decide) hc)), ⟨?_, ?_, ?_, ?_, ?_, ?_⟩, fun n hn => ?_⟩
      · rw [me_f (c := 13960) g3 s1 rfl rfl, a1]
      · rw [me_f (c := 13961) g3 s1 rfl rfl, a2]
      · rw [me_f (c := 13963) g3 s1 rfl rfl, a3]
      · rw [me_f (c := 13964) g3 s1 rfl rfl, a4]
      · rw [me_f (c := 13965) g3 s1 rfl rfl, a5]
      · rw [me_f (c := 14000) g3 s1 rfl rfl, a6]
      · rw [g2]
        by_cases c2 : n = zk.toNat
        · rw [if_pos c2]
        · rw [if_neg c2]
          exact s4 n (by omega)
end REA
theorem rd_okfn : rd_Okfn := fun h hS => by
  refine mt_reA (d := 43) hS (fun h1 g1 g2 g3 g4 g5 g6 g7 g8 g9 => ?_)
  exact re37fn 28 0 h1 (by decide) (by decide) (by decide) ⟨g1, g9.wide (fun c hc => ab_swr_ok (by decide) hc), ⟨g2, g3, g5, g6, g7, g8⟩, fun n hn => by omega⟩

section CM0
variable {d : Nat} {h : sm_H}
/-- the reference's compile drops the trees -/
def mr_Vc : List (Nat × Nat) := [(13952, 13953), (13956, 14016), (14017, 14080), (14464, 19840), (21120, 21761)]
def co0_Q (h : sm_H) (w : Option mi_V) (h' : sm_H) : Prop := ab_Sh sx_sk h' ∧ ab_Fr mr_Vc h h' ∧ mi_f h' 13952 = 0 ∧ mi_f h' 14015 = 0 ∧ mi_f h' 14017 = 0 ∧ (mi_f h' 13959 = 0 → mi_f h' 13961 = 0 ∧ mi_f h' 13962 = 0)
theorem me_compile0r (hS : ab_Sh sx_sk h) : me_E 60 175 0 [some (.inr (.inr 109)), none] [] h (co0_Q h) := by
  refine mt_coA (d := 40) hS ?_
  intro h1 g1 g2 g3
  refine ⟨_, rd_okfn h1 g1, fun w h2 ow hq => ?_⟩
  obtain ⟨rfl, q1, q2, q3⟩ := hq
  have q4 : mi_f h2 13952 = mi_f h1 13952 := me_f (c := 13952) q2 g1 rfl rfl
  have F2 : ab_Fr mr_Vc h h2 := (g3.wide (fun c hc => ab_swr_ok (by decide) hc)).trans (q2.wide (fun c hc => ab_swr_ok (by decide) hc))
  refine mt_coB (d := 40) q1 ?_ ?_
  · intro b c h3 r1 r2 r3 r4 r5
    obtain ⟨Y, l1, l2⟩ := q3 c
    have hg : wk_gc (mi_a h2) (mi_a h3) := wk_gc_fr r5 q1 rfl
    have l1' : sy_L h3 Y := sy_L_fr2 l1 q1 r5 hg rfl
    refine ⟨_, me_study (d := 56) l1' r1, fun w h4 ow hq => ?_⟩
    obtain ⟨rfl, s1, s2⟩ := hq
    have l4 := sy_L_fr l1' r1 s2
    refine mt_coC (d := 40) s1 ?_
    intro h5 t1 t2
    have e := me_nil t2
    subst e
    refine ⟨_, me_check (d := 58) l4 t1, fun w h6 ow hq => ?_⟩
    obtain ⟨e, z, rfl, oz⟩ := hq
    subst e
    have c4 : mi_f h6 13952 = 0 := by rw [me_f (c := 13952) s2 r1 rfl rfl, me_f (c := 13952) r5 q1 rfl rfl, q4]; exact g2
    have n4 : mi_f h6 14015 = 0 := (me_f (c := 14015) s2 r1 rfl rfl).trans r3
    have n7 : mi_f h6 14017 = 0 := (me_f (c := 14017) s2 r1 rfl rfl).trans r4
    have fin : ∀ h7 (y : Int), y ≠ 0 → ab_Sh sx_sk h7 → mi_f h7 13959 = y → ab_Fr [(13959, 13960)] h6 h7 → co0_Q h (some (.inl z)) h7 := fun h7 y y0 u1 u2 u3 => by
      refine ⟨u1, ((F2.trans (r5.wide (fun c hc => ab_swr_ok (by decide) hc))).trans (s2.wide (fun c hc => ab_swr_ok (by decide) hc))).trans (u3.wide (fun c hc => ab_swr_ok (by decide) hc)), ?_, ?_, ?_, fun z => by rw [u2] at z; exact absurd z y0⟩
      · rw [me_f (c := 13952) u3 t1 rfl rfl, c4]
      · rw [me_f (c := 14015) u3 t1 rfl rfl, n4]
      · rw [me_f (c := 14017) u3 t1 rfl rfl, n7]
    refine mt_coD (d := 40) t1 oz ?_ ?_
    · intro c h7 u1 u2 u3
      exact fin h7 1 (by decide) u1 u2 u3
    · intro c h7 u1 u2 u3
      exact fin h7 2 (by decide) u1 u2 u3
  · intro b c h3 r1 r2 r3 r4 r5 r6 r7
    refine ⟨r1, F2.trans (r7.wide (fun c hc => ab_swr_ok (by decide) hc)), ?_, r5, r6, fun _ => ⟨r3, r4⟩⟩
    rw [me_f (c := 13952) r7 q1 rfl rfl, q4]
    exact g2
/-- the class's compile drops the trees -/
def cmf_W : List (Nat × Nat) := xc_141.2.2.2.2.1
theorem me_compile0c (hS : ab_Sh sx_sk h) : me_E (d + 33) 12 0 [some (.inr (.inr 51)), none] [] h (fun w h' => ab_Sh sx_sk h' ∧ ab_Fr cmf_W h h' ∧ mi_f h' 12032 = 0 ∧ mi_f h' 12544 = 0) := by
  refine mt_cmA hS (fun h1 g1 g2 => ?_)
  have e0 := me_nil g2
  subst e0
  refine ⟨_, mt_kdr94 (d := d + 32) (Q := fun w h' => w = none ∧ ab_Sh sx_sk h' ∧ mi_f h' 12032 = 0 ∧ ab_Fr [(12032, 12033)] h1 h') hS (fun h2 a b c => ⟨rfl, a, b, c⟩), fun w h2 oww hq => ?_⟩
  obtain ⟨rfl, a1, a2, a3⟩ := hq
  refine mt_cmB a1 (fun h3 g1 g2 => ?_)
  have e0 := me_nil g2
  subst e0
  refine ⟨_, mt_kdr98 (d := d + 32) (Q := fun w h' => w = none ∧ ab_Sh sx_sk h' ∧ mi_f h' 12544 = 0 ∧ ab_Fr [(12544, 12545)] h3 h') a1 (fun h2 a b c => ⟨rfl, a, b, c⟩), fun w h4 oww hq => ?_⟩
  obtain ⟨rfl, b1, b2, b3⟩ := hq
  have F4 : ab_Fr cmf_W h1 h4 := (a3.wide (fun c hc => ab_swr_ok (by decide) hc)).trans (b3.wide (fun c hc => ab_swr_ok (by decide) hc))
  have z4 : mi_f h4 12032 = 0 := (me_f (c := 12032) b3 a1 rfl rfl).trans a2
  refine mt_cmC b1 (fun h5 g1 g2 => ?_)
  have e0 := me_nil g2
  subst e0
  have A := me_abs (M := (3, 1, sb_14)) (as := [.inr (.inr 76)]) xo_83 rfl b1 ⟨rfl, trivial⟩ (fun e he => by cases he) (by decide)
  refine ⟨_, me_E.deep (d' := d + 32) A (by show 27 ≤ d + 32; omega), fun w h6 oww hq => ?_⟩
  obtain ⟨q1, q2, p, hp, q3, -⟩ := hq
  have ep : p = (ab_top, []) := List.mem_singleton.mp hp
  subst ep
  obtain ⟨y, rfl, y0, y1⟩ := me_resI q3 (by decide) rfl
  have oy : mi_in y := oww _ rfl
  have F6 : ab_Fr cmf_W h1 h6 := F4.trans (q2.wide (fun c hc => ab_swr_ok (by decide) hc))
  have z6 : mi_f h6 12032 = 0 ∧ mi_f h6 12544 = 0 := ⟨(me_f (c := 12032) q2 b1 rfl rfl).trans z4, (me_f (c := 12544) q2 b1 rfl rfl).trans b2⟩
  have fin : ∀ (z : Int) (h9 : sm_H), mi_in z → ab_Sh sx_sk h9 → ab_Fr cmf_W h1 h9 → mi_f h9 12032 = 0 ∧ mi_f h9 12544 = 0 → me_E (d + 33) 12 57 [some (.inr (.inr 51)), some (.inl z)] [] h9 (fun w h' => ab_Sh sx_sk h' ∧ ab_Fr cmf_W h1 h' ∧ mi_f h' 12032 = 0 ∧ mi_f h' 12544 = 0) := by
    intro z h9 oz s1 s2 s3
    have go : ∀ h10, ab_Sh sx_sk h10 → ab_Fr [(6543, 6544)] h9 h10 → ab_Sh sx_sk h10 ∧ ab_Fr cmf_W h1 h10 ∧ mi_f h10 12032 = 0 ∧ mi_f h10 12544 = 0 := fun h10 t1 t2 => ⟨t1, s2.trans (t2.wide (fun c hc => ab_swr_ok (by decide) hc)), (me_f (c := 12032) t2 s1 rfl rfl).trans s3.1, (me_f (c := 12544) t2 s1 rfl rfl).trans s3.2⟩
    refine mt_cmG s1 oz ?_ ?_
    · intro c1 h10 t1 t2 t3
      exact go h10 t1 t3
    · intro c1 h10 t1 t2 t3
      exact go h10 t1 t3
  refine mt_cmD q1 oy ?_ ?_
  · intro c1 h7 s1 s2 s3
    exact fin _ h7 oy s1 (F6.trans (s3.wide (fun c hc => ab_swr_ok (by decide) hc))) ⟨(me_f (c := 12032) s3 q1 rfl rfl).trans z6.1, (me_f (c := 12544) s3 q1 rfl rfl).trans z6.2⟩
  · intro c1 h7 s1 s2 s3
    have F7 : ab_Fr cmf_W h1 h7 := F6.trans (s3.wide (fun c hc => ab_swr_ok (by decide) hc))
    have z7 : mi_f h7 12032 = 0 ∧ mi_f h7 12544 = 0 := ⟨(me_f (c := 12032) s3 q1 rfl rfl).trans z6.1, (me_f (c := 12544) s3 q1 rfl rfl).trans z6.2⟩
    have A2 := me_abs (M := (2, 0, sb_65)) (as := [.inr (.inr 78)]) xo_129 rfl s1 ⟨rfl, trivial⟩ (fun e he => by cases he) (by decide)
    refine ⟨_, me_E.deep (d' := d + 32) A2 (by show 6 ≤ d + 32; omega), fun w h8 oww2 hq2 => ?_⟩
    obtain ⟨u1, u2, p2, hp2, u3, -⟩ := hq2
    have ew : w = none := u3
    subst ew
    have F8 : ab_Fr cmf_W h1 h8 := F7.trans (u2.wide (fun c hc => ab_swr_ok (by decide) hc))
    have z8 : mi_f h8 12032 = 0 ∧ mi_f h8 12544 = 0 := ⟨(me_f (c := 12032) u2 s1 rfl rfl).trans z7.1, (me_f (c := 12544) u2 s1 rfl rfl).trans z7.2⟩
    refine mt_cmE u1 oy (fun h9 g1 g2 => ?_)
    have e0 := me_nil g2
    subst e0
    have A3 := me_abs (M := (2, 1, sb_82)) (as := [.inr (.inr 93)]) xo_140 rfl u1 ⟨rfl, trivial⟩ (fun e he => by cases he) (by decide)
    refine ⟨_, me_E.deep (d' := d + 32) A3 (by show 3 ≤ d + 32; omega), fun w h10 oww3 hq3 => ?_⟩
    obtain ⟨v1, v2, p3, hp3, v3, -⟩ := hq3
    have ep3 : p3 = (ab_top, []) := List.mem_singleton.mp hp3
    subst ep3
    obtain ⟨y2, rfl, -, -⟩ := me_resI v3 (by decide) rfl
    have oy2 : mi_in y2 := oww3 _ rfl
    refine mt_cmF v1 oy oy2 (fun h11 g1 g2 => ?_)
    have e0 := me_nil g2
    subst e0
    exact fin _ h11 oy2 v1 (F8.trans (v2.wide (fun c hc => ab_swr_ok (by decide) hc))) ⟨(me_f (c := 12032) v2 u1 rfl rfl).trans z8.1, (me_f (c := 12544) v2 u1 rfl rfl).trans z8.2⟩
end CM0
