/-! the reference's read leaves the texts as they were -/
def mr_W : List (Nat × Nat) := [(13952, 13953), (13954, 14080), (14081, 21889)]
def rd_Qf (h : sm_H) (w : Option mi_V) (h' : sm_H) : Prop := w = none ∧ ab_Sh sx_sk h' ∧ ab_Fr mr_W h h' ∧ (mi_f h' 13960 ≤ 0 → ∃ Y, sy_L h' Y ∧ wk_Lrule Y (mi_a h' 114 0))
def rd_Okf : Prop := ∀ h, ab_Sh sx_sk h → me_E 59 176 0 [some (.inr (.inr 109)), none, none] [] h (rd_Qf h)
section REA
variable {h0 h : sm_H}
/-- the last loop: over the uses -/
def re_Uf (h0 h : sm_H) (zt : Int) : Prop := ab_Sh sx_sk h ∧ ab_Fr mr_W h0 h ∧ 0 ≤ mi_f h 13960 ∧ (mi_f h 13960 = 0 → 1 ≤ mi_f h 13961 ∧ (∃ Y z, rs_B h Y z 0) ∧ ∀ u, 0 ≤ u → u < zt → u < mi_f h 13963 → mi_a h 119 u.toNat = 9 → 0 ≤ mi_a h 115 (mi_a h 120 u.toNat).toNat)
theorem re117f : ∀ (N : Nat) (zm zt : Int) (h : sm_H), 60 - zt < N → 0 ≤ zt → zt ≤ 60 → mi_in zm → re_Uf h0 h zt → me_E 59 176 117 [some (.inr (.inr 109)), some (.inl zm), some (.inl zt)] [] h (rd_Qf h0) := by
  intro N
  induction N with
  | zero => intro zm zt h hN t0 t1; exfalso; omega
  | succ N ih =>
    intro zm zt h hN t0 t1 om hH
    obtain ⟨s1, s2, s3, s4⟩ := hH
    have ot : mi_in zt := ⟨by omega, by omega⟩
    refine mt_reF (d := 43) s1 om ot ?_ ?_ ?_ ?_ ?_
    · intro b c h1 g1 g2
      have e := me_nil g2
      subst e
      refine ⟨rfl, s1, s2, fun x => ?_⟩
      obtain ⟨y1, ⟨Y, z, y2⟩, y3⟩ := s4 (by omega)
      exact re_end y2 s1 y1 (fun u x0 x1 x9 => y3 u x0 (by omega) x1 x9)
    · intro b b2 c c2 h1 g1 g2
      have e := me_nil g2
      subst e
      exact ⟨rfl, s1, s2, fun x => by omega⟩
    · intro b b2 c c2 c3
      refine ⟨⟨⟨by omega, by omega⟩, ⟨by omega, by omega⟩⟩, fun h1 g1 g2 => ?_⟩
      have e := me_nil g2
      subst e
      refine ih zm (zt + 1) h1 (by omega) (by omega) (by omega) om ⟨s1, s2, s3, fun x => ?_⟩
      obtain ⟨y1, y2, y3⟩ := s4 x
      refine ⟨y1, y2, fun u x0 x1 x2 x9 => ?_⟩
      by_cases e : u = zt
      · rw [e] at x9
        exact absurd x9 c3
      · exact y3 u x0 (by omega) x2 x9
    · intro b b2 c c2 c3 c4
      obtain ⟨y1, ⟨Y, z, y2⟩, y3⟩ := s4 c2
      have w4 := (y2.1.2.1 zt t0 (by have := y2.2.1; omega)).2.2.2.1 c3
      refine ⟨⟨⟨by omega, by omega⟩, w4, ⟨by omega, by omega⟩⟩, fun h1 g1 g2 => ?_⟩
      have e := me_nil g2
      subst e
      refine ih zm (zt + 1) h1 (by omega) (by omega) (by omega) om ⟨s1, s2, s3, fun x => ⟨y1, ⟨Y, z, y2⟩, fun u x0 x1 x2 x9 => ?_⟩⟩
      by_cases e : u = zt
      · rw [e]
        exact c4
      · exact y3 u x0 (by omega) x2 x9
    · intro b b2 c c2 c3 c4
      obtain ⟨y1, ⟨Y, z, y2⟩, y3⟩ := s4 c2
      have w4 := (y2.1.2.1 zt t0 (by have := y2.2.1; omega)).2.2.2.1 c3
      have w5 := y2.2.2.2.2.2.2.1.2.2 zt t0 c
      refine ⟨⟨⟨by omega, by omega⟩, w4⟩, fun h1 g1 g2 => ?_⟩
      have e := me_nil g2
      subst e
      refine ⟨_, me_blame (d := 58) s1 (by decide) (by decide) (by omega) (by omega) (by omega), fun w h2 oww hq => ?_⟩
      obtain ⟨rfl, v1, v2, v3⟩ := hq
      refine mt_reG (d := 43) v1 om ot ⟨⟨by omega, by omega⟩, fun h3 g1 g2 => ?_⟩
      have e := me_nil g2
      subst e
      exact ih zm (zt + 1) h3 (by omega) (by omega) (by omega) om ⟨v1, s2.trans (v2.wide (fun c hc => ab_swr_ok (by decide) hc)), by omega, fun x => by omega⟩
/-- the loop over the rules -/
def re_Hf (h0 h : sm_H) (zm zt : Int) : Prop := ab_Sh sx_sk h ∧ ab_Fr mr_W h0 h ∧ 0 ≤ mi_f h 13960 ∧ (mi_f h 13960 = 0 → (zm ≠ 0 → mi_f h 14000 ≤ 241) ∧ (1 ≤ mi_f h 13961 ∨ (zt = 0 ∧ zm ≠ 0)) ∧ ∃ Y z, rs_B h Y z 0)
theorem re60f : ∀ (N : Nat) (zm zt : Int) (h : sm_H), 12 - zt < N → 0 ≤ zt → zt ≤ 12 → mi_in zm → re_Hf h0 h zm zt → me_E 59 176 60 [some (.inr (.inr 109)), some (.inl zm), some (.inl zt)] [] h (rd_Qf h0) := by
  intro N
  induction N with
  | zero => intro zm zt h hN t0 t1; exfalso; omega
  | succ N ih =>
    intro zm zt h hN t0 t1 om hH
    obtain ⟨s1, s2, s3, s4⟩ := hH
    have ot : mi_in zt := ⟨by omega, by omega⟩
    have fin : (mi_f h 13960 = 0 → 1 ≤ mi_f h 13961) → ∀ h1, ab_Sh sx_sk h1 → ab_Fr [] h h1 → me_E 59 176 117 [some (.inr (.inr 109)), some (.inl zm), some (.inl 0)] [] h1 (rd_Qf h0) := fun hr h1 g1 g2 => by
      have e := me_nil g2
      subst e
      refine re117f 62 zm 0 h1 (by decide) (by decide) (by decide) om ⟨s1, s2, s3, fun x => ?_⟩
      obtain ⟨y1, y2, y3⟩ := s4 x
      exact ⟨hr x, y3, fun u x0 x1 => by omega⟩
    refine mt_reC (d := 43) s1 om ot ?_ ?_ ?_ ?_
    · intro c
      exact fin (fun x => by obtain ⟨y1, y2, y3⟩ := s4 x; omega)
    · intro c c2
      exact fin (fun x => by obtain ⟨y1, y2, y3⟩ := s4 x; omega)
    · intro b c c2 c3
      exact fin (fun x => by omega)
    · intro b c c2 c3 h1 g1 g2
      have e := me_nil g2
      subst e
      obtain ⟨y1, y2, Y, z, y3⟩ := s4 c3
      refine ⟨_, me_scan (d := 56) s1 (y1 c2), fun w h2 oww hq => ?_⟩
      obtain ⟨rfl, r1, r2, r3⟩ := hq
      have ef : mi_f h2 13960 = 0 := (me_f (c := 13960) r2 s1 rfl rfl).trans c3
      have F2 : ab_Fr mr_W h0 h2 := s2.trans (r2.wide (fun c hc => ab_swr_ok (by decide) hc))
      have B2 := rs_Bfr y3 s1 r2 (by decide)
      have ru : ∃ Q1, me_E 58 183 0 (mi_entry 3 [.inr (.inr 109)]) [] h2 Q1 ∧ ∀ w h3, (∀ x, w = some x → mi_ok x) → Q1 w h3 → me_E 59 176 109 [some (.inr (.inr 109)), some (.inl 1), some (.inl zt)] (mi_back w []) h3 (rd_Qf h0) := by
        refine ⟨_, me_rule (d := 44) B2 r1 ef r3, fun w h3 oww hq => ?_⟩
        obtain ⟨rfl, v1, v2, v3, v4⟩ := hq
        refine mt_reE (d := 43) v1 fm_in1 ot ⟨⟨by omega, by omega⟩, fun h4 g1 g2 => ?_⟩
        have e := me_nil g2
        subst e
        refine ih 1 (zt + 1) h4 (by omega) (by omega) (by omega) fm_in1 ⟨v1, F2.trans (v2.wide (fun c hc => ab_swr_ok (by decide) hc)), v3, fun x => ?_⟩
        obtain ⟨x1, x2, x3⟩ := v4 x
        exact ⟨fun _ => x1, Or.inl x2, x3⟩
      refine mt_reD (d := 43) r1 om ot ?_ ?_ ?_
      · intro b c h3 g1 g2
        have e := me_nil g2
        subst e
        exact ru
      · intro b b2 c4 c5
        refine ⟨⟨by omega, by omega⟩, fun h3 g1 g2 => ?_⟩
        have e := me_nil g2
        subst e
        exact ih 0 (zt + 1) h3 (by omega) (by omega) (by omega) fm_in0 ⟨r1, F2, by omega, fun _ => ⟨fun x => absurd rfl x, Or.inl (by omega), Y, z, B2⟩⟩
      · intro b b2 c4 c5 h3 g1 g2
        have e := me_nil g2
        subst e
        exact ru
def re_Af (h0 h : sm_H) (zk : Int) : Prop := ab_Sh sx_sk h ∧ ab_Fr mr_W h0 h ∧ (mi_f h 13960 = 0 ∧ mi_f h 13961 = 0 ∧ mi_f h 13963 = 0 ∧ mi_f h 13964 = 0 ∧ mi_f h 13965 = 0 ∧ mi_f h 14000 = 0) ∧ ∀ n : Nat, (n : Int) < zk → mi_a h 115 n = -1
theorem re37f : ∀ (N : Nat) (zk : Int) (h : sm_H), 26 - zk < N → 0 ≤ zk → zk ≤ 26 → re_Af h0 h zk → me_E 59 176 37 [some (.inr (.inr 109)), some (.inl zk), none] [] h (rd_Qf h0) := by
  intro N
  induction N with
  | zero => intro zk h hN t0 t1; exfalso; omega
  | succ N ih =>
    intro zk h hN t0 t1 hH
    obtain ⟨s1, s2, ⟨a1, a2, a3, a4, a5, a6⟩, s4⟩ := hH
    have ok : mi_in zk := ⟨by omega, by omega⟩
    refine mt_reB (d := 43) s1 ok ?_ ?_
    · intro c h1 g1 g2
      have e := me_nil g2
      subst e
      refine re60f 14 1 0 h1 (by decide) (by decide) (by decide) fm_in1 ⟨s1, s2, by omega, fun _ => ⟨fun _ => by omega, Or.inr ⟨rfl, by decide⟩, re_Y0, re_Z0, re_I0 _, ?_, ?_, ?_, by omega, by omega, ⟨fun r x0 x1 => by omega, fun n hn => ?_, fun u x0 x1 => by omega⟩, fun f x0 x1 => by omega⟩⟩
      · show (0 : Int) = _
        omega
      · show (0 : Int) = _
        omega
      · show (0 : Int) = _
        omega
      · rw [s4 n (by omega)]
        omega
    · intro c
      refine ⟨⟨⟨by omega, by omega⟩, ⟨by omega, by omega⟩⟩, fun h1 g1 g2 g3 => ?_⟩
      refine ih (zk + 1) h1 (by omega) (by omega) (by omega) ⟨g1, s2.trans (g3.wide (fun c hc => ab_swr_ok (by decide) hc)), ⟨?_, ?_, ?_, ?_, ?_, ?_⟩, fun n hn => ?_⟩
      · rw [me_f (c := 13960) g3 s1 rfl rfl, a1]
      · rw [me_f (c := 13961) g3 s1 rfl rfl, a2]
      · rw [me_f (c := 13963) g3 s1 rfl rfl, a3]
      · rw [me_f (c := 13964) g3 s1 rfl rfl, a4]
      · rw [me_f (c := 13965) g3 s1 rfl rfl, a5]
      · rw [me_f (c := 14000) g3 s1 rfl rfl, a6]
      · rw [g2]
        by_cases c2 : n = zk.toNat
        · rw [if_pos c2]
        · rw [if_neg c2]
          exact s4 n (by omega)
end REA
theorem rd_okf : rd_Okf := fun h hS => by
  refine mt_reA (d := 43) hS (fun h1 g1 g2 g3 g4 g5 g6 g7 g8 g9 => ?_)
  exact re37f 28 0 h1 (by decide) (by decide) (by decide) ⟨g1, g9.wide (fun c hc => ab_swr_ok (by decide) hc), ⟨g2, g3, g5, g6, g7, g8⟩, fun n hn => by omega⟩
/-! compile, on both sides -/
theorem me_E.all {ι : Type} {d m pc : Nat} {ls : mi_L} {st : List mi_V} {h : sm_H} {Q : ι → Option mi_V → sm_H → Prop} (i0 : ι) (k : ∀ i, me_E d m pc ls st h (Q i)) : me_E d m pc ls st h (fun w h' => ∀ i, Q i w h') := by
  obtain ⟨n, v, h1, r, w, e1, e2, -⟩ := k i0
  refine ⟨n, v, h1, r, w, e1, e2, fun i => ?_⟩
  obtain ⟨n', v', h1', r', w', e1', e2', e3'⟩ := k i
  have := sm_run_same r r'
  injection this with ev eh
  subst eh
  have : w = w' := by
    rw [e1, e1'] at ev
    cases w with
    | none => cases w' with
      | none => rfl
      | some y => cases ev
    | some x => cases w' with
      | none => cases ev
      | some y =>
        have ev2 : some (mi_c x) = some (mi_c y) := ev
        injection ev2 with ev3
        rw [mi_c_inj (e2 x rfl) (e2' y rfl) ev3]
  rw [this]
  exact e3'
/-- some read of the reference -/
def PG (n : Int) (c : Nat → Int) (g0 : wk_g) : Prop := rz_0 g0 ∧ ((∃ f, rz_B n c g0 f) ∨ ∃ g h2 Y, rz_D n c g0 g ∧ rz_U g ∧ RQ g h2 ∧ sy_L h2 Y)
theorem PG_of {h : sm_H} (hS : ab_Sh sx_sk h) : ∃ g0, PG (mi_f h 13953) (mi_a h 110) g0 := by
  have k := (me_readx hS).and (rd_ok h hS)
  obtain ⟨n, v, h1, r, w, e1, e2, ⟨g0, z0, z1, z2, z3⟩, q1, q2, q3, q4⟩ := k
  refine ⟨g0, z0, ?_⟩
  by_cases c : mi_f h1 13960 = 0
  · obtain ⟨-, g, y1, y2, y3⟩ := z2 c
    obtain ⟨Y, l1, -⟩ := q4 (by omega)
    exact Or.inr ⟨g, h1, Y, y1, y2, y3, l1⟩
  · exact Or.inl ⟨_, z3 c⟩
/-- the class's sets are worked out -/
def SC (h : sm_H) : Prop := ∃ (j k : Nat) (W : sp_F), sp_eq 70 (cX h) (sps_k (GC h) 70 j) ∧ sp_fix 70 (GC h) (sps_k (GC h) 70 j) ∧ (∀ i : Nat, i < 70 → W i = if i = 0 then 1 else 0) ∧ (∀ i : Nat, mx_b h 81 i = sk_k (sps_k (GC h) 70 j) (GC h) 70 W k i) ∧ sw_sol (sps_k (GC h) 70 j) 70 (GC h) (sk_k (sps_k (GC h) 70 j) (GC h) 70 W k)
def sc_no (wr : List (Nat × Nat)) : Bool := !([63, 64, 65, 66, 68, 69, 71, 72].any (fun r => ab_in wr (r * 128))) && !(ab_in wr 10112 || ab_in wr 10240 || ab_in wr 10496) && !ab_in wr 10368
theorem SC_fr {h h' : sm_H} {wr : List (Nat × Nat)} (hC : SC h) (hS : ab_Sh sx_sk h) (hF : ab_Fr wr h h') (hw : sc_no wr = true) : SC h' := by
  unfold sc_no at hw
  simp only [Bool.and_eq_true, Bool.not_eq_true'] at hw
  have e := cv_eq_fr hF hS hw.1.1
  have eX := cX_fr hF hS hw.1.2
  unfold SC
  rw [e.g, eX, show mx_b h' 81 = mx_b h 81 from funext fun i => me_b (k := 81) hF hS rfl hw.2]
  exact hC
theorem TC_fr {f : Int → Int} {ow : Nat → Nat} {g : wk_g} {h h' : sm_H} {wr : List (Nat × Nat)} (hC : TC f ow g h) (hS : ab_Sh sx_sk h) (hF : ab_Fr wr h h') (hw : ([63, 64, 65, 66, 68, 69, 71, 72].any (fun r => ab_in wr (r * 128)) || ab_in wr 7680) = false) : TC f ow g h' := by
  simp only [Bool.or_eq_false_iff] at hw
  obtain ⟨e63, e64, e65, e66, e68, e69, e71, e72⟩ := cv_eq_fr hF hS hw.1
  unfold TC
  rw [e63, e64, e65, e66, e68, e69, e71, e72, me_f (c := 7680) hF hS rfl hw.2]
  exact hC
def cm_W : List (Nat × Nat) := [(6542, 6544), (7680, 12545)]
def cm_G (n : Int) (c : Nat → Int) (g0 : wk_g) (h' : sm_H) : Prop := (mi_f h' 6542 = 0 ∧ ∃ f, rz_B n c g0 f) ∨ (mi_f h' 6542 = 1 ∧ SC h' ∧ ∃ f ow g, rz_D n c g0 g ∧ rz_U g ∧ PR ow g ∧ FI f g ∧ TC f ow g h' ∧ PV 240 g ∧ PW g ∧ g 0 1 ≤ g 0 0 ∧ 1 ≤ g 0 3)
def cm_Q (n : Int) (c : Nat → Int) (g0 : wk_g) (h : sm_H) (w : Option mi_V) (h' : sm_H) : Prop := (∃ y, w = some (.inl y) ∧ mi_in y) ∧ ab_Sh sx_sk h' ∧ ab_Fr cm_W h h' ∧ cm_G n c g0 h'
theorem PV_240 {n : Int} {g : wk_g} (h : PV n g) (hn : n ≤ 240) : PV 240 g := ⟨h.1, h.2.1, fun u hu => ⟨⟨((h.2.2 u hu).1).1, by have := (h.2.2 u hu).1; omega⟩, (h.2.2 u hu).2⟩⟩
section CMC
variable {d : Nat} {h : sm_H} {n : Int} {c : Nat → Int} {g0 : wk_g}
theorem me_dropT {k : Int} {cc : ab_C} (hok : ab_Ok sc_P sx_sk cc) (hc : cc = (13, [(3, k, 0, [])], [], [(ab_unk, [])], cc.2.2.2.2.1, 0)) (hk : k = 94 ∨ k = 98) (hS : ab_Sh sx_sk h) : me_E (d + 32) 13 0 (mi_entry 1 [.inr (.inr k.toNat)]) [] h (fun w h' => w = none ∧ ab_Sh sx_sk h' ∧ ab_Fr cc.2.2.2.2.1 h h') := by
  have e1 : cc.1 = 13 := by rw [hc]
  have e2 : cc.2.1 = [(3, k, 0, [])] := by rw [hc]
  have e3 : cc.2.2.1 = [] := by rw [hc]
  have e4 : cc.2.2.2.1 = [(ab_unk, [])] := by rw [hc]
  have e5 : cc.2.2.2.2.2 = 0 := by rw [hc]
  have A := me_abs (M := (1, 0, sb_13)) (as := [.inr (.inr k.toNat)]) hok (by rw [e1]; rfl) hS (by rw [e2]; rcases hk with rfl | rfl <;> exact ⟨rfl, trivial⟩) (by rw [e3]; exact fun e he => by cases he) (by rw [e4]; rfl)
  rw [e1, e5] at A
  refine (me_E.deep (d' := d + 32) A (Nat.zero_le _)).imp (fun w h' hq => ?_)
  obtain ⟨q1, q2, p, hp, q3, -⟩ := hq
  exact ⟨q3, q1, q2⟩
theorem me_compilec (hS : ab_Sh sx_sk h) (hx : cx_ok h) (en : mi_f h 6657 = n) (ec : mi_a h 53 = c) (hG : PG n c g0) : me_E (d + 33) 12 0 [some (.inr (.inr 51)), none] [] h (cm_Q n c g0 h) := by
  have n240 : n ≤ 240 := by have := me_fb (c := 6657) hS rfl; omega
  refine mt_cmA hS (fun h1 g1 g2 => ?_)
  have e0 := me_nil g2
  subst e0
  refine ⟨_, me_dropT (d := d) (k := 94) xo_0 rfl (Or.inl rfl) hS, fun w h2 oww hq => ?_⟩
  obtain ⟨rfl, a1, a2⟩ := hq
  refine mt_cmB a1 (fun h3 g1 g2 => ?_)
  have e0 := me_nil g2
  subst e0
  refine ⟨_, me_dropT (d := d) (k := 98) xo_1 rfl (Or.inr rfl) a1, fun w h4 oww hq => ?_⟩
  obtain ⟨rfl, b1, b2⟩ := hq
  have F4 : ab_Fr cm_W h1 h4 := (a2.wide (fun c hc => ab_swr_ok (by decide) hc)).trans (b2.wide (fun c hc => ab_swr_ok (by decide) hc))
  have e57 : mi_f h4 6657 = n := (me_f (c := 6657) F4 hS rfl rfl).trans en
  have e53 : mi_a h4 53 = c := (funext fun i => me_a (k := 53) F4 hS rfl rfl).trans ec
  have x4 : cx_ok h4 := by
    unfold cx_ok
    rw [e57, e53, ← en, ← ec]
    exact hx
  refine mt_cmC b1 (fun h5 g1 g2 => ?_)
  have e0 := me_nil g2
  subst e0
  refine ⟨_, me_readc (d := d) b1 x4 hG.1 e57 e53, fun w h6 oww hq => ?_⟩
  obtain ⟨rfl, r1, r2, r3, r4⟩ := hq
  have F6 : ab_Fr cm_W h1 h6 := F4.trans (r2.wide (fun c hc => ab_swr_ok (by decide) hc))
  have kr : kF h6 = 0 ↔ mi_f h6 9730 = 0 := by
    unfold kF
    constructor
    · intro q
      by_cases c : mi_f h6 9730 = 0
      · exact c
      · obtain ⟨-, ⟨k1, k2⟩, k3, k4⟩ := r4 c
        omega
    · intro q
      have := (r3 q).1
      omega
  have okk : mi_in (kF h6) := by
    by_cases c : mi_f h6 9730 = 0
    · rw [kr.mpr c]; exact fm_in0
    · obtain ⟨-, ⟨k1, k2⟩, k3, k4⟩ := r4 c
      unfold kF
      exact ⟨by omega, by omega⟩
  have fin : ∀ (z : Int) (h9 : sm_H), mi_in z → ab_Sh sx_sk h9 → ab_Fr cm_W h1 h9 → cm_G n c g0 h9 → me_E (d + 33) 12 57 [some (.inr (.inr 51)), some (.inl z)] [] h9 (cm_Q n c g0 h1) := by
    intro z h9 oz s1 s2 s3
    have go : ∀ h10, ab_Sh sx_sk h10 → ab_Fr [(6543, 6544)] h9 h10 → cm_Q n c g0 h1 (some (.inl z)) h10 := by
      intro h10 t1 t2
      refine ⟨⟨z, rfl, oz⟩, t1, s2.trans (t2.wide (fun c hc => ab_swr_ok (by decide) hc)), ?_⟩
      have e42 : mi_f h10 6542 = mi_f h9 6542 := me_f (c := 6542) t2 s1 rfl rfl
      rcases s3 with ⟨y1, y2⟩ | ⟨y1, y2, f, ow, g, k1, k2, k3, k4, k5, k6⟩
      · exact Or.inl ⟨e42.trans y1, y2⟩
      · exact Or.inr ⟨e42.trans y1, SC_fr y2 s1 t2 (by decide), f, ow, g, k1, k2, k3, k4, TC_fr k5 s1 t2 (by decide), k6⟩
    refine mt_cmG s1 oz ?_ ?_
    · intro c1 h10 t1 t2 t3
      exact go h10 t1 t3
    · intro c1 h10 t1 t2 t3
      exact go h10 t1 t3
  refine mt_cmD r1 okk ?_ ?_
  · intro c1 h7 s1 s2 s3
    have cf : mi_f h6 9730 ≠ 0 := fun q => c1 (kr.mpr q)
    exact fin _ h7 okk s1 (F6.trans (s3.wide (fun c hc => ab_swr_ok (by decide) hc))) (Or.inl ⟨s2, _, (r4 cf).1⟩)
  · intro c1 h7 s1 s2 s3
    have cf : mi_f h6 9730 = 0 := kr.mp c1
    obtain ⟨-, f, ow, g, k1, k2, k3, k4, k5, k6, k7, k8⟩ := r3 cf
    have T6 := TC_of k5
    have T7 := TC_fr T6 r1 s3 (by decide)
    have V := PV_240 k6 n240
    have F7 : ab_Fr cm_W h1 h7 := F6.trans (s3.wide (fun c hc => ab_swr_ok (by decide) hc))
    /- the reference would read the same -/
    obtain ⟨g', h'', Y, p1, p2, p3, p4⟩ : ∃ g h2 Y, rz_D n c g0 g ∧ rz_U g ∧ RQ g h2 ∧ sy_L h2 Y := by
      rcases hG.2 with ⟨f', q⟩ | q
      · exact (rz_xB k1 k2 q).elim
      · exact q
    have eg := rz_DD p1 k1
    subst eg
    have r03 : 1 ≤ g' 0 3 := by
      obtain ⟨j, a', -, -, q⟩ := k1
      have q : g' 0 3 ≠ 0 := q
      have := k3.1.2.2.1
      omega
    have hF := CV_F p3 T7 k3 k4 V k8 k2 p4 k7
    refine ⟨_, me_setsWork (d := d + 25) s1 hF, fun w h8 oww hq => ?_⟩
    obtain ⟨rfl, t1, t2, j, k, W, t3, t4, t5, t6, t7⟩ := hq
    have e8 := cv_eq_fr t2 s1 (by rfl)
    have S8 : SC h8 := by
      refine ⟨j, k, W, ?_, ?_, t5, fun i => ?_, ?_⟩
      · rw [e8.g]; exact t3
      · rw [e8.g]; exact t4
      · rw [e8.g]; exact t6 i
      · rw [e8.g]; exact t7
    have T8 := TC_fr T7 s1 t2 (by decide)
    have F8 : ab_Fr cm_W h1 h8 := F7.trans (t2.wide (fun c hc => ab_swr_ok (by decide) hc))
    have e8' : mi_f h8 6542 = 1 := (me_f (c := 6542) t2 s1 rfl rfl).trans s2
    refine mt_cmE t1 okk (fun h9 g1 g2 => ?_)
    have e0 := me_nil g2
    subst e0
    have A := me_abs (M := (2, 1, sb_82)) (as := [.inr (.inr 93)]) xo_140 rfl t1 ⟨rfl, trivial⟩ (fun e he => by cases he) (by decide)
    refine ⟨_, me_E.deep (d' := d + 32) A (by show 3 ≤ d + 32; omega), fun w h10 oww hq => ?_⟩
    obtain ⟨q1, q2, p, hp, q3, -⟩ := hq
    have q2 : ab_Fr [(11906, 11907)] h9 h10 := q2
    rcases List.mem_cons.mp hp with rfl | hp
    · obtain ⟨y, rfl, y0, y1⟩ := me_resI q3 (by decide) rfl
      refine mt_cmF q1 okk ⟨y0, y1⟩ (fun h11 g1 g2 => ?_)
      have e0 := me_nil g2
      subst e0
      exact fin y h11 ⟨y0, y1⟩ q1 (F8.trans (q2.wide (fun c hc => ab_swr_ok (by decide) hc))) (Or.inr ⟨(me_f (c := 6542) q2 t1 rfl rfl).trans e8', SC_fr S8 t1 q2 (by decide), f, ow, g', k1, k2, k3, k4, TC_fr T8 t1 q2 (by decide), V, k8, k7, r03⟩)
    · cases hp
end CMC
/-- the reference's sets are worked out -/
def SM (h : sm_H) : Prop := ∃ (j k : Nat) (W : sp_F), sp_eq (mi_f h 13965).toNat (rX h) (sr_k (GR (mi_a h)) j) ∧ sp_fix (mi_f h 13965).toNat (GR (mi_a h)) (sr_k (GR (mi_a h)) j) ∧ (∀ i : Nat, (i : Int) < mi_f h 13965 → W i = if (i : Int) = mi_a h 114 0 then 1 else 0) ∧ (∀ i : Nat, mx_b h 138 i = sk_k (sr_k (GR (mi_a h)) j) (GR (mi_a h)) (mi_f h 13965).toNat W k i) ∧ sw_sol (sr_k (GR (mi_a h)) j) (mi_f h 13965).toNat (GR (mi_a h)) (sk_k (sr_k (GR (mi_a h)) j) (GR (mi_a h)) (mi_f h 13965).toNat W k)
def co_G (n : Int) (c : Nat → Int) (g0 : wk_g) (h' : sm_H) : Prop := (mi_f h' 13959 = 0 ∧ ∃ f, rz_B n c g0 f) ∨ (mi_f h' 13959 ≠ 0 ∧ SM h' ∧ ∃ g Y, rz_D n c g0 g ∧ rz_U g ∧ RQ g h' ∧ sy_L h' Y)
def co_Q (h : sm_H) (w : Option mi_V) (h' : sm_H) : Prop := (∃ y, w = some (.inl y) ∧ mi_in y) ∧ ab_Sh sx_sk h' ∧ ab_Fr mr_W h h' ∧ mj_0 h' ∧ ∃ g0, PG (mi_f h 13953) (mi_a h 110) g0 ∧ co_G (mi_f h 13953) (mi_a h 110) g0 h'
/-! the reference's compile, exactly; both together -/
section CMR
variable {h : sm_H}
def sm_no (wr : List (Nat × Nat)) : Bool := !([114, 115, 119, 120, 122, 124, 125, 126, 128, 129, 130].any (fun r => ab_in wr (r * 128))) && !(ab_in wr 17024 || ab_in wr 17408 || ab_in wr 18432) && !(ab_in wr 17664 || ab_in wr 13965)
theorem SM_fr {h' : sm_H} {wr : List (Nat × Nat)} (hC : SM h) (hS : ab_Sh sx_sk h) (hF : ab_Fr wr h h') (hw : sm_no wr = true) : SM h' := by
  unfold sm_no at hw
  simp only [Bool.and_eq_true, Bool.not_eq_true', Bool.or_eq_false_iff] at hw
  have e := rv_eq_fr hF hS hw.1.1
  have eX := rX_fr hF hS (by rw [Bool.or_eq_false_iff, Bool.or_eq_false_iff]; exact hw.1.2)
  unfold SM
  rw [e.g, eX, show mx_b h' 138 = mx_b h 138 from funext fun i => me_b (k := 138) hF hS rfl hw.2.1, me_f (c := 13965) hF hS rfl hw.2.2, e 114 (by decide)]
  exact hC
theorem sy_L_fr2 {h' : sm_H} {Y : wk_Y} {wr : List (Nat × Nat)} (l1 : sy_L h Y) (q1 : ab_Sh sx_sk h) (r5 : ab_Fr wr h h') (hg : wk_gc (mi_a h) (mi_a h')) (w1 : (ab_in wr 13963 || ab_in wr 13965 || ab_in wr 13964 || ab_in wr 13961) = false) : sy_L h' Y := by
  simp only [Bool.or_eq_false_iff] at w1
  obtain ⟨a1, a2, a3, a4, a5⟩ := l1
  unfold sy_L
  rw [me_f (c := 13963) r5 q1 rfl w1.1.1.1, me_f (c := 13965) r5 q1 rfl w1.1.1.2, me_f (c := 13964) r5 q1 rfl w1.1.2, me_f (c := 13961) r5 q1 rfl w1.2]
  refine ⟨wk_L_g a1 hg, a2, a3, fun x h0 h1 => ?_, fun r h0 h1 => ?_⟩
  · rw [hg 126 (by decide)]
    exact a4 x h0 h1
  · rw [hg 114 (by decide)]
    exact a5 r h0 h1
theorem me_compilex (hS : ab_Sh sx_sk h) : me_E 60 175 0 [some (.inr (.inr 109)), none] [] h (co_Q h) := by
  refine mt_coA (d := 40) hS ?_
  intro h1 g1 g2 g3
  refine ⟨_, (me_readx g1).and (rd_okf h1 g1), fun w h2 ow hq => ?_⟩
  obtain ⟨⟨g0, z0, z1, z2, z3⟩, rfl, q1, q2, q3⟩ := hq
  have en : mi_f h1 13953 = mi_f h 13953 := me_f (c := 13953) g3 hS rfl rfl
  have ec : mi_a h1 110 = mi_a h 110 := funext fun i => me_a (k := 110) g3 hS rfl rfl
  rw [en, ec] at z2 z3
  have F2 : ab_Fr mr_W h h2 := (g3.wide (fun c hc => ab_swr_ok (by decide) hc)).trans q2
  refine mt_coB (d := 40) q1 ?_ ?_
  · intro b c h3 r1 r2 r3 r4 r5
    obtain ⟨Y, l1, l2⟩ := q3 c
    obtain ⟨-, g, y1, y2, y3⟩ := z2 (by omega)
    have hPG : PG (mi_f h 13953) (mi_a h 110) g0 := ⟨z0, Or.inr ⟨g, h2, Y, y1, y2, y3, l1⟩⟩
    have hg : wk_gc (mi_a h2) (mi_a h3) := wk_gc_fr r5 q1 rfl
    have l1' : sy_L h3 Y := sy_L_fr2 l1 q1 r5 hg rfl
    have Q3 : RQ g h3 := RQ_same y3 q1 r5 (by decide)
    have W : PW g := by
      obtain ⟨k, a, hk, -⟩ := y1
      exact PW_ruTr k _ (PW_0 z0) hk
    have hA : sy_A h3 := TW_A Q3 W l1'
    refine ⟨_, me_studyx (d := 56) l1' hA r1, fun w h4 ow hq => ?_⟩
    obtain ⟨rfl, s1, s2, j, k, W0, t3, t4, t5, t6, t7⟩ := hq
    have l4 := sy_L_fr l1' r1 s2
    have hg4 : wk_gc (mi_a h2) (mi_a h4) := hg.trans (wk_gc_fr s2 r1 rfl)
    have n4 : mi_f h4 14015 = 0 := (me_f (c := 14015) s2 r1 rfl rfl).trans r3
    have Q4 : RQ g h4 := RQ_same Q3 r1 s2 (by decide)
    have e4 := rv_eq_fr s2 r1 (by rfl)
    have S4 : SM h4 := by
      have e65 : mi_f h4 13965 = mi_f h3 13965 := me_f (c := 13965) s2 r1 rfl rfl
      refine ⟨j, k, W0, ?_, ?_, fun i hi => ?_, fun i => ?_, ?_⟩
      · rw [e4.g, e65]; exact t3
      · rw [e4.g, e65]; exact t4
      · rw [e4 114 (by decide)]; rw [e65] at hi; exact t5 i hi
      · rw [e4.g, e65]; exact t6 i
      · rw [e4.g, e65]; exact t7
    refine mt_coC (d := 40) s1 ?_
    intro h5 t1 t2
    have e := me_nil t2
    subst e
    refine ⟨_, me_check (d := 58) l4 t1, fun w h6 ow hq => ?_⟩
    obtain ⟨e, z, rfl, oz⟩ := hq
    subst e
    have fin : ∀ h7, ab_Sh sx_sk h7 → mi_f h7 13959 ≠ 0 → ab_Fr [(13959, 13960)] h6 h7 → co_Q h (some (.inl z)) h7 := fun h7 u1 un u3 => by
      have hg7 : wk_gc (mi_a h2) (mi_a h7) := hg4.trans (wk_gc_fr u3 t1 rfl)
      refine ⟨⟨z, rfl, oz⟩, u1, ((F2.trans (r5.wide (fun c hc => ab_swr_ok (by decide) hc))).trans (s2.wide (fun c hc => ab_swr_ok (by decide) hc))).trans (u3.wide (fun c hc => ab_swr_ok (by decide) hc)), ⟨fun _ => mj_L_g hg7 ⟨Y, l1.1, l2⟩, fun z => absurd ((me_f (c := 14015) u3 t1 rfl rfl).trans n4) z⟩, g0, hPG, Or.inr ⟨un, SM_fr S4 t1 u3 (by decide), g, Y, y1, y2, RQ_same Q4 t1 u3 (by decide), sy_L_fr2 l4 t1 u3 (wk_gc_fr u3 t1 rfl) rfl⟩⟩
    refine mt_coD (d := 40) t1 oz ?_ ?_
    · intro c h7 u1 u2 u3
      exact fin h7 u1 (by omega) u3
    · intro c h7 u1 u2 u3
      exact fin h7 u1 (by omega) u3
  · intro b c h3 r1 r2 r3 r4 r5 r6 r7
    have B := z3 (by omega)
    exact ⟨⟨_, rfl, mi_inT _⟩, r1, F2.trans (r7.wide (fun c hc => ab_swr_ok (by decide) hc)), ⟨fun z => by exfalso; omega, fun z => absurd r5 z⟩, g0, ⟨z0, Or.inl ⟨_, B⟩⟩, Or.inl ⟨r2, _, B⟩⟩
end CMR
/-! with which uses a form begins: what the reference closes is what the class works out -/
/-- a part before which all may be passed -/
def zP (e : sp_P → Prop) : List sp_P → sp_P → Prop
  | [], _ => False
  | q :: r, p => p = q ∨ (e q ∧ zP e r p)
def zQ (e : sp_P → Prop) (as : List (List sp_P)) (p : sp_P) : Prop := ∃ us, us ∈ as ∧ zP e us p
/-- paths whose places between are below q -/
def wa (E : Nat → Nat → Prop) : Nat → Nat → Nat → Prop
  | 0, r, b => E r b
  | q + 1, r, b => wa E q r b ∨ (wa E q r q ∧ wa E q q b)
section WA
variable {E T : Nat → Nat → Prop}
theorem wa_E {r b : Nat} (h : E r b) : ∀ n, wa E n r b := by
  intro n
  induction n with
  | zero => exact h
  | succ n ih => exact Or.inl ih
theorem wa_tr : ∀ (n q : Nat), q < n → ∀ r b, wa E n r q → wa E n q b → wa E n r b := by
  intro n
  induction n with
  | zero => intro q hq; omega
  | succ n ih =>
    intro q hq r b h1 h2
    by_cases c : q = n
    · subst c
      have k1 : wa E q r q := by
        rcases h1 with h1 | h1
        · exact h1
        · exact h1.1
      have k2 : wa E q q b := by
        rcases h2 with h2 | h2
        · exact h2
        · exact h2.2
      exact Or.inr ⟨k1, k2⟩
    · have hq' : q < n := by omega
      rcases h1 with h1 | ⟨h1, h1'⟩
      · rcases h2 with h2 | ⟨h2, h2'⟩
        · exact Or.inl (ih q hq' r b h1 h2)
        · exact Or.inr ⟨ih q hq' r n h1 h2, h2'⟩
      · rcases h2 with h2 | ⟨h2, h2'⟩
        · exact Or.inr ⟨h1, ih q hq' n b h1' h2⟩
        · exact Or.inr ⟨h1, h2'⟩
theorem wa_least (hE : ∀ r b, E r b → T r b) (hT : ∀ r q b, T r q → T q b → T r b) : ∀ n r b, wa E n r b → T r b := by
  intro n
  induction n with
  | zero => exact hE
  | succ n ih =>
    intro r b h
    rcases h with h | ⟨h, h'⟩
    · exact ih r b h
    · exact hT r n b (ih r n h) (ih n b h')
end WA
/-- closed: as the reference has it, as the class has it -/
def zl_c (e : sp_P → Prop) (bt : sp_P → Nat) (nf : Nat) (G : sg_G) (S : Nat → Nat → Prop) : Prop := ∀ F : Nat, F < nf → ∀ p, zQ e (G F) p → (p.2.1 ≠ 0 → S F (bt p)) ∧ (p.2.1 = 0 → 0 ≤ p.1 → ∀ b, S p.1.toNat b → S F b)
def zb_c (e : sp_P → Prop) (bt : sp_P → Nat) (nf : Nat) (G : sg_G) (S : Nat → Nat → Prop) : Prop := ∀ F : Nat, F < nf → ∀ p, zQ e (G F) p → (p.2.1 ≠ 0 → S F (bt p)) ∧ (0 ≤ p.1 → ∀ b, S p.1.toNat b → S F b)
theorem zz_same {e : sp_P → Prop} {bt : sp_P → Nat} {nf nr : Nat} {G : sg_G} {rf : Nat → Nat} {L B : Nat → Nat → Prop} (hu : ∀ F : Nat, F < nf → ∀ p, zQ e (G F) p → p.2.1 ≠ 0 → 0 ≤ p.1 ∧ p.1.toNat = rf (bt p) ∧ bt p < nr) (hr : ∀ r : Nat, r < nr → rf r < nf) (hf : ∀ F : Nat, F < nf → ∀ p, zQ e (G F) p → 0 ≤ p.1 → p.1.toNat < nf)
    (cL : zl_c e bt nf G L) (lL : ∀ S, zl_c e bt nf G S → ∀ F : Nat, F < nf → ∀ b, L F b → S F b) (cB : zb_c e bt nf G B) (lB : ∀ S, zb_c e bt nf G S → ∀ F : Nat, F < nf → ∀ b, B F b → S F b) : ∀ r : Nat, r < nr → ∀ b, (B (rf r) b ↔ wa (fun r q => L (rf r) q) nr r b) := by
  have bL : ∀ F : Nat, F < nf → ∀ b, L F b → b < nr := lL (fun _ b => b < nr) (fun F hF p hp => ⟨fun hn => (hu F hF p hp hn).2.2, fun _ _ b hb => hb⟩)
  intro r hr' b
  constructor
  · intro hB
    have k := lB (fun F b => L F b ∨ ∃ q, q < nr ∧ L F q ∧ wa (fun r q => L (rf r) q) nr q b) (fun F hF p hp => ⟨fun hn => Or.inl ((cL F hF p hp).1 hn), fun h0 b hb => ?_⟩) (rf r) (hr r hr') b hB
    · rcases k with k | ⟨q, hq, k1, k2⟩
      · exact wa_E (E := fun r q => L (rf r) q) k nr
      · exact wa_tr nr q hq r b (wa_E (E := fun r q => L (rf r) q) k1 nr) k2
    · by_cases c : p.2.1 = 0
      · have m := (cL F hF p hp).2 c h0
        rcases hb with hb | ⟨q, hq, k1, k2⟩
        · exact Or.inl (m b hb)
        · exact Or.inr ⟨q, hq, m q k1, k2⟩
      · obtain ⟨-, e1, e2⟩ := hu F hF p hp c
        have m := (cL F hF p hp).1 c
        have hb : L p.1.toNat b ∨ ∃ q, q < nr ∧ L p.1.toNat q ∧ wa (fun r q => L (rf r) q) nr q b := hb
        rw [e1] at hb
        refine Or.inr ⟨bt p, e2, m, ?_⟩
        rcases hb with hb | ⟨q, hq, k1, k2⟩
        · exact wa_E (E := fun r q => L (rf r) q) hb nr
        · exact wa_tr nr q hq (bt p) b (wa_E (E := fun r q => L (rf r) q) k1 nr) k2
  · intro hW
    have k := lL (fun F q => B F q ∧ ∀ b, B (rf q) b → B F b) (fun F hF p hp => ⟨fun hn => ⟨(cB F hF p hp).1 hn, fun b hb => ?_⟩, fun _ h0 b hb => ⟨(cB F hF p hp).2 h0 b hb.1, fun b' hb' => (cB F hF p hp).2 h0 b' (hb.2 b' hb')⟩⟩)
    · have := wa_least (E := fun r q => L (rf r) q) (T := fun r q => r < nr → B (rf r) q ∧ (∀ b, B (rf q) b → B (rf r) b) ∧ q < nr) (fun r q h hr'' => ⟨(k (rf r) (hr r hr'') q h).1, (k (rf r) (hr r hr'') q h).2, bL (rf r) (hr r hr'') q h⟩) (fun r q b h1 h2 hr'' => ⟨(h1 hr'').2.1 b (h2 (h1 hr'').2.2).1, fun b' hb' => (h1 hr'').2.1 b' ((h2 (h1 hr'').2.2).2.1 b' hb'), (h2 (h1 hr'').2.2).2.2⟩) nr r b hW hr'
      exact this.1
    · obtain ⟨e0, e1, -⟩ := hu F hF p hp hn
      rw [← e1] at hb
      exact (cB F hF p hp).2 e0 b hb
