/-! the reference's read leaves the texts as they were -/
def mr_W : List (Nat × Nat) := [(13952, 13953), (13954, 14080), (14081, 21889)]
def rd_Qf (h : sm_H) (w : Option mi_V) (h' : sm_H) : Prop := w = none ∧ ab_Sh sx_sk h' ∧ ab_Fr mr_W h h' ∧ (mi_f h' 13960 ≤ 0 → ∃ Y, sy_L h' Y ∧ wk_Lrule Y (mi_a h' 114 0))
def rd_Okf : Prop := ∀ h, ab_Sh sx_sk h → me_E 59 176 0 [some (.inr (.inr 109)), none, none] [] h (rd_Qf h)
section REA
variable {h0 h : sm_H}
/-- the last loop: over the uses -/
def re_Uf (h0 h : sm_H) (zt : Int) : Prop := ab_Sh sx_sk h ∧ ab_Fr mr_W h0 h ∧ 0 ≤ mi_f h 13960 ∧ (mi_f h 13960 = 0 → 1 ≤ mi_f h 13961 ∧ (∃ Y z, rs_B h Y z 0) ∧ ∀ u, 0 ≤ u → u < zt → u < mi_f h 13963 → mi_a h 119 u.toNat = 9 → 0 ≤ mi_a h 115 (mi_a h 120 u.toNat).toNat)
theorem re117f : ∀ (N : Nat) (zm zt : Int) (h : sm_H), 60 - zt < N → 0 ≤ zt → zt ≤ 60 → mi_in zm → re_Uf h0 h zt → me_E 59 176 117 [some (.inr (.inr 109)), some (.inl zm), some (.inl zt)] [] h (rd_Qf h0) := by
  intro N
  induction N with
  | zero => intro zm zt h hN t0 t1; exfalso; omega
  | succ N ih =>
    intro zm zt h hN t0 t1 om hH
    obtain ⟨s1, s2, s3, s4⟩ := hH
    have ot : mi_in zt := ⟨by omega, by omega⟩
    refine mt_reF (d := 43) s1 om ot ?_ ?_ ?_ ?_ ?_
    · intro b c h1 g1 g2
      have e := me_nil g2
      subst e
      refine ⟨rfl, s1, s2, fun x => ?_⟩
      obtain ⟨y1, ⟨Y, z, y2⟩, y3⟩ := s4 (by omega)
      exact re_end y2 s1 y1 (fun u x0 x1 x9 => y3 u x0 (by omega) x1 x9)
    · intro b b2 c c2 h1 g1 g2
      have e := me_nil g2
      subst e
      exact ⟨rfl, s1, s2, fun x => by omega⟩
    · intro b b2 c c2 c3
      refine ⟨⟨⟨by omega, by omega⟩, ⟨by omega, by omega⟩⟩, fun h1 g1 g2 => ?_⟩
      have e := me_nil g2
      subst e
      refine ih zm (zt + 1) h1 (by omega) (by omega) (by omega) om ⟨s1, s2, s3, fun x => ?_⟩
      obtain ⟨y1, y2, y3⟩ := s4 x
      refine ⟨y1, y2, fun u x0 x1 x2 x9 => ?_⟩
      by_cases e : u = zt
      · rw [e] at x9
        exact absurd x9 c3
      · exact y3 u x0 (by omega) x2 x9
    · intro b b2 c c2 c3 c4
      obtain ⟨y1, ⟨Y, z, y2⟩, y3⟩ := s4 c2
      have w4 := (y2.1.2.1 zt t0 (by have := y2.2.1; omega)).2.2.2.1 c3
      refine ⟨⟨⟨by omega, by omega⟩, w4, ⟨by omega, by omega⟩⟩, fun h1 g1 g2 => ?_⟩
      have e := me_nil g2
      subst e
      refine ih zm (zt + 1) h1 (by omega) (by omega) (by omega) om ⟨s1, s2, s3, fun x => ⟨y1, ⟨Y, z, y2⟩, fun u x0 x1 x2 x9 => ?_⟩⟩
      by_cases e : u = zt
      · rw [e]
        exact c4
      · exact y3 u x0 (by omega) x2 x9
    · intro b b2 c c2 c3 c4
      obtain ⟨y1, ⟨Y, z, y2⟩, y3⟩ := s4 c2
      have w4 := (y2.1.2.1 zt t0 (by have := y2.2.1; omega)).2.2.2.1 c3
      have w5 := y2.2.2.2.2.2.2.1.2.2 zt t0 c
      refine ⟨⟨⟨by omega, by omega⟩, w4⟩, fun h1 g1 g2 => ?_⟩
      have e := me_nil g2
      subst e
      refine ⟨_, me_blame (d := 58) s1 (by decide) (by decide) (by omega) (by omega) (by omega), fun w h2 oww hq => ?_⟩
      obtain ⟨rfl, v1, v2, v3⟩ := hq
      refine mt_reG (d := 43) v1 om ot ⟨⟨by omega, by omega⟩, fun h3 g1 g2 => ?_⟩
      have e := me_nil g2
      subst e
      exact ih zm (zt + 1) h3 (by omega) (by omega) (by omega) om ⟨v1, s2.trans (v2.wide (fun c hc => ab_swr_ok (by decide) hc)), by omega, fun x => by omega⟩
/-- the loop over the rules -/
def re_Hf (h0 h : sm_H) (zm zt : Int) : Prop := ab_Sh sx_sk h ∧ ab_Fr mr_W h0 h ∧ 0 ≤ mi_f h 13960 ∧ (mi_f h 13960 = 0 → (zm ≠ 0 → mi_f h 14000 ≤ 241) ∧ (1 ≤ mi_f h 13961 ∨ (zt = 0 ∧ zm ≠ 0)) ∧ ∃ Y z, rs_B h Y z 0)
theorem re60f : ∀ (N : Nat) (zm zt : Int) (h : sm_H), 12 - zt < N → 0 ≤ zt → zt ≤ 12 → mi_in zm → re_Hf h0 h zm zt → me_E 59 176 60 [some (.inr (.inr 109)), some (.inl zm), some (.inl zt)] [] h (rd_Qf h0) := by
  intro N
  induction N with
  | zero => intro zm zt h hN t0 t1; exfalso; omega
  | succ N ih =>
    intro zm zt h hN t0 t1 om hH
    obtain ⟨s1, s2, s3, s4⟩ := hH
    have ot : mi_in zt := ⟨by omega, by omega⟩
    have fin : (mi_f h 13960 = 0 → 1 ≤ mi_f h 13961) → ∀ h1, ab_Sh sx_sk h1 → ab_Fr [] h h1 → me_E 59 176 117 [some (.inr (.inr 109)), some (.inl zm), some (.inl 0)] [] h1 (rd_Qf h0) := fun hr h1 g1 g2 => by
      have e := me_nil g2
      subst e
      refine re117f 62 zm 0 h1 (by decide) (by decide) (by decide) om ⟨s1, s2, s3, fun x => ?_⟩
      obtain ⟨y1, y2, y3⟩ := s4 x
      exact ⟨hr x, y3, fun u x0 x1 => by omega⟩
    refine mt_reC (d := 43) s1 om ot ?_ ?_ ?_ ?_
    · intro c
      exact fin (fun x => by obtain ⟨y1, y2, y3⟩ := s4 x; omega)
    · intro c c2
      exact fin (fun x => by obtain ⟨y1, y2, y3⟩ := s4 x; omega)
    · intro b c c2 c3
      exact fin (fun x => by omega)
    · intro b c c2 c3 h1 g1 g2
      have e := me_nil g2
      subst e
      obtain ⟨y1, y2, Y, z, y3⟩ := s4 c3
      refine ⟨_, me_scan (d := 56) s1 (y1 c2), fun w h2 oww hq => ?_⟩
      obtain ⟨rfl, r1, r2, r3⟩ := hq
      have ef : mi_f h2 13960 = 0 := (me_f (c := 13960) r2 s1 rfl rfl).trans c3
      have F2 : ab_Fr mr_W h0 h2 := s2.trans (r2.wide (fun c hc => ab_swr_ok (by decide) hc))
      have B2 := rs_Bfr y3 s1 r2 (by decide)
      have ru : ∃ Q1, me_E 58 183 0 (mi_entry 3 [.inr (.inr 109)]) [] h2 Q1 ∧ ∀ w h3, (∀ x, w = some x → mi_ok x) → Q1 w h3 → me_E 59 176 109 [some (.inr (.inr 109)), some (.inl 1), some (.inl zt)] (mi_back w []) h3 (rd_Qf h0) := by
        refine ⟨_, me_rule (d := 44) B2 r1 ef r3, fun w h3 oww hq => ?_⟩
        obtain ⟨rfl, v1, v2, v3, v4⟩ := hq
        refine mt_reE (d := 43) v1 fm_in1 ot ⟨⟨by omega, by omega⟩, fun h4 g1 g2 => ?_⟩
        have e := me_nil g2
        subst e
        refine ih 1 (zt + 1) h4 (by omega) (by omega) (by omega) fm_in1 ⟨v1, F2.trans (v2.wide (fun c hc => ab_swr_ok (by decide) hc)), v3, fun x => ?_⟩
        obtain ⟨x1, x2, x3⟩ := v4 x
        exact ⟨fun _ => x1, Or.inl x2, x3⟩
      refine mt_reD (d := 43) r1 om ot ?_ ?_ ?_
      · intro b c h3 g1 g2
        have e := me_nil g2
        subst e
        exact ru
      · intro b b2 c4 c5
        refine ⟨⟨by omega, by omega⟩, fun h3 g1 g2 => ?_⟩
        have e := me_nil g2
        subst e
        exact ih 0 (zt + 1) h3 (by omega) (by omega) (by omega) fm_in0 ⟨r1, F2, by omega, fun _ => ⟨fun x => absurd rfl x, Or.inl (by omega), Y, z, B2⟩⟩
      · intro b b2 c4 c5 h3 g1 g2
        have e := me_nil g2
        subst e
        exact ru
def re_Af (h0 h : sm_H) (zk : Int) : Prop := ab_Sh sx_sk h ∧ ab_Fr mr_W h0 h ∧ (mi_f h 13960 = 0 ∧ mi_f h 13961 = 0 ∧ mi_f h 13963 = 0 ∧ mi_f h 13964 = 0 ∧ mi_f h 13965 = 0 ∧ mi_f h 14000 = 0) ∧ ∀ n : Nat, (n : Int) < zk → mi_a h 115 n = -1
theorem re37f : ∀ (N : Nat) (zk : Int) (h : sm_H), 26 - zk < N → 0 ≤ zk → zk ≤ 26 → re_Af h0 h zk → me_E 59 176 37 [some (.inr (.inr 109)), some (.inl zk), none] [] h (rd_Qf h0) := by
  intro N
  induction N with
  | zero => intro zk h hN t0 t1; exfalso; omega
  | succ N ih =>
    intro zk h hN t0 t1 hH
    obtain ⟨s1, s2, ⟨a1, a2, a3, a4, a5, a6⟩, s4⟩ := hH
    have ok : mi_in zk := ⟨by omega, by omega⟩
    refine mt_reB (d := 43) s1 ok ?_ ?_
    · intro c h1 g1 g2
      have e := me_nil g2
      subst e
      refine re60f 14 1 0 h1 (by decide) (by decide) (by decide) fm_in1 ⟨s1, s2, by omega, fun _ => ⟨fun _ => by omega, Or.inr ⟨rfl, by decide⟩, re_Y0, re_Z0, re_I0 _, ?_, ?_, ?_, by omega, by omega, ⟨fun r x0 x1 => by omega, fun n hn => ?_, fun u x0 x1 => by omega⟩, fun f x0 x1 => by omega⟩⟩
      · show (0 : Int) = _
        omega
      · show (0 : Int) = _
        omega
      · show (0 : Int) = _
        omega
      · rw [s4 n (by omega)]
        omega
    · intro c
      refine ⟨⟨⟨by omega, by omega⟩, ⟨by omega, by omega⟩⟩, fun h1 g1 g2 g3 => ?_⟩
      refine ih (zk + 1) h1 (by omega) (by omega) (by omega) ⟨g1, s2.trans (g3.wide (fun c hc => ab_swr_ok (by decide) hc)), ⟨?_, ?_, ?_, ?_, ?_, ?_⟩, fun n hn => ?_⟩
      · rw [me_f (c := 13960) g3 s1 rfl rfl, a1]
      · rw [me_f (c := 13961) g3 s1 rfl rfl, a2]
      · rw [me_f (c := 13963) g3 s1 rfl rfl, a3]
      · rw [me_f (c := 13964) g3 s1 rfl rfl, a4]
      · rw [me_f (c := 13965) g3 s1 rfl rfl, a5]
      · rw [me_f (c := 14000) g3 s1 rfl rfl, a6]
      · rw [g2]
        by_cases c2 : n = zk.toNat
        · rw [if_pos c2]
        · rw [if_neg c2]
          exact s4 n (by omega)
end REA
theorem rd_okf : rd_Okf := fun h hS => by
  refine mt_reA (d := 43) hS (fun h1 g1 g2 g3 g4 g5 g6 g7 g8 g9 => ?_)
  exact re37f 28 0 h1 (by decide) (by decide) (by decide) ⟨g1, g9.wide (fun c hc => ab_swr_ok (by decide) hc), ⟨g2, g3, g5, g6, g7, g8⟩, fun n hn => by omega⟩

