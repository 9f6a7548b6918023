/-! the reference's read, exactly -/
def rz_Q (n : Int) (c : Nat → Int) (_ : Option mi_V) (h' : sm_H) : Prop := ∃ g0, rz_0 g0 ∧ 0 ≤ mi_f h' 13960 ∧ (mi_f h' 13960 = 0 → lc_ok h' ∧ ∃ g, rz_D n c g0 g ∧ rz_U g ∧ RQ g h') ∧ (mi_f h' 13960 ≠ 0 → rz_B n c g0 (mi_f h' 13960))
def rz_V (n : Int) (c : Nat → Int) (g0 : wk_g) (h : sm_H) (zt : Int) : Prop := ab_Sh sx_sk h ∧ 0 ≤ mi_f h 13960 ∧ (mi_f h 13960 = 0 → lc_ok h ∧ (∃ Y z, rs_B h Y z 0) ∧ ∃ g, rz_D n c g0 g ∧ RQ g h ∧ ∀ u : Nat, (u : Int) < zt → (u : Int) < g 0 0 → g 119 u = 9 → 0 ≤ g 115 (g 120 u).toNat) ∧ (mi_f h 13960 ≠ 0 → rz_B n c g0 (mi_f h 13960))
section RZX
variable {n : Int} {c : Nat → Int} {g0 : wk_g}
theorem rz117 (h0 : rz_0 g0) : ∀ (N : Nat) (zm zt : Int) (h : sm_H), 60 - zt < N → 0 ≤ zt → zt ≤ 60 → mi_in zm → rz_V n c g0 h zt → me_E 59 176 117 [some (.inr (.inr 109)), some (.inl zm), some (.inl zt)] [] h (rz_Q n c) := by
  intro N
  induction N with
  | zero => intro zm zt h hN t0 t1; exfalso; omega
  | succ N ih =>
    intro zm zt h hN t0 t1 om hH
    obtain ⟨s1, s3, s4, s5⟩ := hH
    have ot : mi_in zt := ⟨by omega, by omega⟩
    refine mt_reF (d := 43) s1 om ot ?_ ?_ ?_ ?_ ?_
    · intro b c1 h1 g1 g2
      have e := me_nil g2
      subst e
      refine ⟨g0, h0, s3, fun x => ?_, s5⟩
      obtain ⟨y1, -, g, y2, y3, y4⟩ := s4 x
      have gU : g 0 0 = mi_f h1 13963 := y3.1.1
      exact ⟨y1, g, y2, fun u u1 u2 => y4 u (by omega) u1 u2, y3⟩
    · intro b b2 c1 c2 h1 g1 g2
      have e := me_nil g2
      subst e
      exact ⟨g0, h0, s3, fun x => absurd x c2, s5⟩
    · intro b b2 c1 c2 c3
      refine ⟨⟨⟨by omega, by omega⟩, ⟨by omega, by omega⟩⟩, fun h1 g1 g2 => ?_⟩
      have e := me_nil g2
      subst e
      refine ih zm (zt + 1) h1 (by omega) (by omega) (by omega) om ⟨s1, s3, fun x => ?_, s5⟩
      obtain ⟨y1, yB, g, y2, y3, y4⟩ := s4 x
      refine ⟨y1, yB, g, y2, y3, fun u u1 u2 u3 => ?_⟩
      by_cases e : u = zt.toNat
      · rw [e, y3.2.1 119 (by decide)] at u3
        exact absurd u3 c3
      · exact y4 u (by omega) u2 u3
    · intro b b2 c1 c2 c3 c4
      obtain ⟨y1, ⟨Y, z, yB⟩, g, y2, y3, y4⟩ := s4 c2
      have w4 := (yB.1.2.1 zt t0 (by have := yB.2.1; omega)).2.2.2.1 c3
      refine ⟨⟨⟨by omega, by omega⟩, w4, ⟨by omega, by omega⟩⟩, fun h1 g1 g2 => ?_⟩
      have e := me_nil g2
      subst e
      refine ih zm (zt + 1) h1 (by omega) (by omega) (by omega) om ⟨s1, s3, fun x => ⟨y1, ⟨Y, z, yB⟩, g, y2, y3, fun u u1 u2 u3 => ?_⟩, s5⟩
      by_cases e : u = zt.toNat
      · rw [e, y3.2.1 120 (by decide), y3.2.1 115 (by decide)]
        exact c4
      · exact y4 u (by omega) u2 u3
    · intro b b2 c1 c2 c3 c4
      obtain ⟨y1, ⟨Y, z, yB⟩, g, y2, y3, y4⟩ := s4 c2
      have gU : g 0 0 = mi_f h 13963 := y3.1.1
      have w4 := (yB.1.2.1 zt t0 (by have := yB.2.1; omega)).2.2.2.1 c3
      have w5 := yB.2.2.2.2.2.2.1.2.2 zt t0 c1
      refine ⟨⟨⟨by omega, by omega⟩, w4⟩, fun h1 g1 g2 => ?_⟩
      have e := me_nil g2
      subst e
      refine ⟨_, me_blamex (d := 58) s1 (by decide) (by decide) (by omega) (by omega) (by omega), fun w h2 oww hq => ?_⟩
      obtain ⟨rfl, v1, v2, v3⟩ := hq
      refine mt_reG (d := 43) v1 om ot ⟨⟨by omega, by omega⟩, fun h3 g1 g2 => ?_⟩
      have e := me_nil g2
      subst e
      refine ih zm (zt + 1) h3 (by omega) (by omega) (by omega) om ⟨v1, by omega, fun x => by omega, fun _ => Or.inr ⟨g, y2, zt.toNat, by omega, ?_, ?_, fun j j1 j2 => y4 j (by omega) (by omega) j2, ?_⟩⟩
      · rw [y3.2.1 119 (by decide)]
        exact c3
      · rw [y3.2.1 120 (by decide), y3.2.1 115 (by decide)]
        exact c4
      · rw [v3, y3.2.1 121 (by decide)]
def rz_H (n : Int) (c : Nat → Int) (g0 : wk_g) (h : sm_H) (zm zt : Int) : Prop := ab_Sh sx_sk h ∧ 0 ≤ mi_f h 13960 ∧ mi_f h 13953 = n ∧ mi_a h 110 = c ∧ (mi_f h 13960 = 0 → zm ≠ 0 → mi_f h 14000 ≤ n ∧ mi_f h 14000 ≤ 241 ∧ lc_ok h ∧ mi_f h 13961 = zt ∧ (∃ Y z, rs_B h Y z 0) ∧ ∃ g k, RQ g h ∧ ru_Tr n c k (g0, 0) (g, mi_f h 14000)) ∧ (mi_f h 13960 = 0 → zm = 0 → lc_ok h ∧ (∃ Y z, rs_B h Y z 0) ∧ ∃ g, rz_D n c g0 g ∧ RQ g h) ∧ (mi_f h 13960 ≠ 0 → rz_R n c g0 (mi_f h 13960))
theorem rz60 (h0 : rz_0 g0) : ∀ (N : Nat) (zm zt : Int) (h : sm_H), 12 - zt < N → 0 ≤ zt → zt ≤ 12 → mi_in zm → rz_H n c g0 h zm zt → me_E 59 176 60 [some (.inr (.inr 109)), some (.inl zm), some (.inl zt)] [] h (rz_Q n c) := by
  intro N
  induction N with
  | zero => intro zm zt h hN t0 t1; exfalso; omega
  | succ N ih =>
    intro zm zt h hN t0 t1 om hH
    obtain ⟨s1, s3, sn, sc, s4, s5, s6⟩ := hH
    have ot : mi_in zt := ⟨by omega, by omega⟩
    have bR := me_fb (c := 13961) s1 rfl
    have fin : (mi_f h 13960 = 0 → zm ≠ 0 → False) → ∀ h1, ab_Sh sx_sk h1 → ab_Fr [] h h1 → me_E 59 176 117 [some (.inr (.inr 109)), some (.inl zm), some (.inl 0)] [] h1 (rz_Q n c) := fun no h1 g1 g2 => by
      have e := me_nil g2
      subst e
      refine rz117 h0 62 zm 0 h1 (by decide) (by decide) (by decide) om ⟨s1, s3, fun x => ?_, fun x => Or.inl (s6 x)⟩
      by_cases cz : zm = 0
      · obtain ⟨y1, y2, g, y3, y4⟩ := s5 x cz
        exact ⟨y1, y2, g, y3, y4, fun u u1 => by omega⟩
      · exact (no x cz).elim
    refine mt_reC (d := 43) s1 om ot ?_ ?_ ?_ ?_
    · intro c1
      exact fin (fun x y => by have := (s4 x y).2.2.2.1; omega)
    · intro c1 c2
      exact fin (fun x y => y c2)
    · intro b c1 c2 c3
      exact fin (fun x y => c3 x)
    · intro b c1 c2 c3 h1 g1 g2
      have e := me_nil g2
      subst e
      obtain ⟨y1, y1b, y2, y2r, ⟨Y, z, y3⟩, g, k, y4, y5⟩ := s4 c3 c2
      refine ⟨_, (me_scan (d := 56) s1 y1b).and (me_scanx (d := 56) s1 (by omega)), fun w h2 oww hq => ?_⟩
      obtain ⟨⟨rfl, r1, r2, r3⟩, -, -, -, r4⟩ := hq
      rw [sn, sc] at r4
      have ef : mi_f h2 13960 = 0 := (me_f (c := 13960) r2 s1 rfl rfl).trans c3
      have en2 : mi_f h2 13953 = n := (me_f (c := 13953) r2 s1 rfl rfl).trans sn
      have ec2 : mi_a h2 110 = c := (funext (fun i => me_a (k := 110) r2 s1 rfl rfl)).trans sc
      have eR2 : mi_f h2 13961 = mi_f h1 13961 := me_f (c := 13961) r2 s1 rfl rfl
      have B2 := rs_Bfr y3 s1 r2 (by decide)
      have Q2 := RQ_same y4 s1 r2 (by decide)
      have L2 := lc_okf y2 s1 r2 (by decide)
      have gR : g 0 3 = mi_f h2 13961 := Q2.1.2.2.2.1
      have ru : ¬ (mi_f h2 14001 = 0 ∧ mi_f h2 13961 ≠ 0) → ∃ Q1, me_E 58 183 0 (mi_entry 3 [.inr (.inr 109)]) [] h2 Q1 ∧ ∀ w h3, (∀ x, w = some x → mi_ok x) → Q1 w h3 → me_E 59 176 109 [some (.inr (.inr 109)), some (.inl 1), some (.inl zt)] (mi_back w []) h3 (rz_Q n c) := fun nE => by
        refine ⟨_, (me_rule (d := 44) B2 r1 ef r3).and (me_rulex (d := 44) en2 ec2 Q2 L2 y1 r4 nE B2 r1 ef r3), fun w h3 oww hq => ?_⟩
        obtain ⟨⟨rfl, v1, v2, v3, v4⟩, v5, v6⟩ := hq
        refine mt_reE (d := 43) v1 fm_in1 ot ⟨⟨by omega, by omega⟩, fun h4 g1 g2 => ?_⟩
        have e := me_nil g2
        subst e
        refine ih 1 (zt + 1) h4 (by omega) (by omega) (by omega) fm_in1 ⟨v1, v3, (me_f (c := 13953) v2 r1 rfl rfl).trans en2, (funext (fun i => me_a (k := 110) v2 r1 rfl rfl)).trans ec2, fun x _ => ?_, fun _ x => absurd x (by decide), fun x => ⟨k, _, y5, v6 x⟩⟩
        obtain ⟨x1, x2, x3⟩ := v4 x
        obtain ⟨w1, w2, w3, g', w4, w5⟩ := v5 x
        exact ⟨w1, x1, w2, by omega, x3, g', k + 1, w5, ru_snoc k _ y5 w4⟩
      refine mt_reD (d := 43) r1 om ot ?_ ?_ ?_
      · intro b c4 h3 g1 g2
        have e := me_nil g2
        subst e
        exact ru (fun x => c4 x.1)
      · intro b b2 c4 c5
        refine ⟨⟨by omega, by omega⟩, fun h3 g1 g2 => ?_⟩
        have e := me_nil g2
        subst e
        rw [c4] at r4
        exact ih 0 (zt + 1) h3 (by omega) (by omega) (by omega) fm_in0 ⟨r1, by omega, en2, ec2, fun _ x => absurd rfl x, fun _ _ => ⟨L2, ⟨Y, z, B2⟩, g, ⟨k, _, y5, ⟨_, _, _, r4⟩, by show g 0 3 ≠ 0; omega⟩, Q2⟩, fun x => absurd ef x⟩
      · intro b b2 c4 c5 h3 g1 g2
        have e := me_nil g2
        subst e
        exact ru (fun x => x.2 c5)
def rz_A (n : Int) (c : Nat → Int) (h : sm_H) (zk : Int) : Prop := ab_Sh sx_sk h ∧ mi_f h 13953 = n ∧ mi_a h 110 = c ∧ (mi_f h 13960 = 0 ∧ mi_f h 13961 = 0 ∧ mi_f h 13962 = 0 ∧ mi_f h 13963 = 0 ∧ mi_f h 13964 = 0 ∧ mi_f h 13965 = 0 ∧ mi_f h 14000 = 0) ∧ ∀ n : Nat, (n : Int) < zk → mi_a h 115 n = -1
theorem rz37 : ∀ (N : Nat) (zk : Int) (h : sm_H), 26 - zk < N → 0 ≤ zk → zk ≤ 26 → rz_A n c h zk → me_E 59 176 37 [some (.inr (.inr 109)), some (.inl zk), none] [] h (rz_Q n c) := by
  intro N
  induction N with
  | zero => intro zk h hN t0 t1; exfalso; omega
  | succ N ih =>
    intro zk h hN t0 t1 hH
    obtain ⟨s1, sn, sc, ⟨a1, a2, al, a3, a4, a5, a6⟩, s4⟩ := hH
    have ok : mi_in zk := ⟨by omega, by omega⟩
    have bn := me_fb (c := 13953) s1 rfl
    refine mt_reB (d := 43) s1 ok ?_ ?_
    · intro c1 h1 g1 g2
      have e := me_nil g2
      subst e
      have Q0 := RQ_g h1
      have z0 : rz_0 (rk_g h1) := by
        refine ⟨⟨Q0.1.1.trans a3, Q0.1.2.1.trans a4, Q0.1.2.2.1.trans a5, Q0.1.2.2.2.1.trans a2, Q0.1.2.2.2.2.1.trans al⟩, fun i hi => ?_⟩
        rw [Q0.2.1 115 (by decide)]
        exact s4 i (by omega)
      refine rz60 z0 14 1 0 h1 (by decide) (by decide) (by decide) fm_in1 ⟨s1, by omega, sn, sc, fun _ _ => ⟨by omega, by omega, fun k hk => by omega, by omega, ⟨re_Y0, re_Z0, re_I0 _, ?_, ?_, ?_, by omega, by omega, ⟨fun r x0 x1 => by omega, fun n hn => ?_, fun u x0 x1 => by omega⟩, fun f x0 x1 => by omega⟩, rk_g h1, 0, Q0, ?_⟩, fun _ x => absurd x (by decide), fun x => absurd a1 x⟩
      · show (0 : Int) = _
        omega
      · show (0 : Int) = _
        omega
      · show (0 : Int) = _
        omega
      · rw [s4 n (by omega)]
        omega
      · rw [a6]
        rfl
    · intro c1
      refine ⟨⟨⟨by omega, by omega⟩, ⟨by omega, by omega⟩⟩, fun h1 g1 g2 g3 => ?_⟩
      refine ih (zk + 1) h1 (by omega) (by omega) (by omega) ⟨g1, (me_f (c := 13953) g3 s1 rfl rfl).trans sn, (funext (fun i => me_a (k := 110) g3 s1 rfl rfl)).trans sc, ⟨?_, ?_, ?_, ?_, ?_, ?_, ?_⟩, fun n hn => ?_⟩
      · rw [me_f (c := 13960) g3 s1 rfl rfl, a1]
      · rw [me_f (c := 13961) g3 s1 rfl rfl, a2]
      · rw [me_f (c := 13962) g3 s1 rfl rfl, al]
      · rw [me_f (c := 13963) g3 s1 rfl rfl, a3]
      · rw [me_f (c := 13964) g3 s1 rfl rfl, a4]
      · rw [me_f (c := 13965) g3 s1 rfl rfl, a5]
      · rw [me_f (c := 14000) g3 s1 rfl rfl, a6]
      · rw [g2]
        by_cases c2 : n = zk.toNat
        · rw [if_pos c2]
        · rw [if_neg c2]
          exact s4 n (by omega)
end RZX
theorem me_readx {h : sm_H} (hS : ab_Sh sx_sk h) : me_E 59 176 0 [some (.inr (.inr 109)), none, none] [] h (rz_Q (mi_f h 13953) (mi_a h 110)) := by
  refine mt_reA (d := 43) hS (fun h1 g1 g2 g3 g4 g5 g6 g7 g8 g9 => ?_)
  exact rz37 28 0 h1 (by decide) (by decide) (by decide) ⟨g1, me_f (c := 13953) g9 hS rfl rfl, funext (fun i => me_a (k := 110) g9 hS rfl rfl), ⟨g2, g3, g4, g5, g6, g7, g8⟩, fun n hn => by omega⟩
