/-! the reference's compile, with its answer -/
def co_R (h h' : sm_H) (g : wk_g) (y : Int) : Prop := ∃ (h3 h4 : sm_H) (Y : wk_Y), ab_Sh sx_sk h3 ∧ ab_Sh sx_sk h4 ∧ ab_Fr mr_W h h4 ∧ ab_Fr sy_W h3 h4 ∧ RQ g h3 ∧ RQ g h4 ∧ sy_L h3 Y ∧ sy_L h4 Y ∧ (∀ (β : Int → Int64) (ρ : Int → List Int), bt_ok β h3 → rh_ok h3 ρ → sz_Z β ρ h3 none h4) ∧ lo_S (j_all h4) y ∧ ab_Fr [(13959, 13960)] h4 h' ∧ (mi_f h' 13959 = if y = 0 then 2 else 1) ∧ lc_ok h4 ∧ wk_Lrule Y (mi_a h4 114 0)
def co_5 (h : sm_H) (w : Option mi_V) (h' : sm_H) : Prop := ∃ y, w = some (.inl y) ∧ mi_in y ∧ ∃ g0, PG (mi_f h 13953) (mi_a h 110) g0 ∧ (rz_B (mi_f h 13953) (mi_a h 110) g0 y ∨ ∃ g, rz_D (mi_f h 13953) (mi_a h 110) g0 g ∧ rz_U g ∧ co_R h h' g y)
theorem j_plo {g : wk_g} {Y : wk_Y} {h : sm_H} (hq : RQ g h) (hW : PW g) (hL : sy_L h Y) (hQ : PQ 240 g) : j_pl h := by
  have r : ∀ r, r ∈ rk_L → mi_a h r = g r := fun r hr => funext fun i => (hq.2.1 r hr i).symm
  obtain ⟨⟨q0, q1, q2, q3, q4, q5⟩, -⟩ := id hq
  refine ⟨fun x hx => ?_, fun u hu q => ?_, fun F hF j hj => ?_⟩
  · rw [r 113 (by decide)]
    have := hQ.2.1 x (by omega)
    omega
  · rw [r 122 (by decide)] at q
    rw [r 123 (by decide)]
    have := hQ.2.2.1 u (by omega) (by omega)
    omega
  · rw [r 130 (by decide)] at hj
    have b := altr hq hW hL (F := F) (by omega) j hj
    rw [r 127 (by decide), r 129 (by decide), alt_g hq]
    have := (hQ.2.2.2 (wk_alt g j (g 129 F)).toNat (by omega)).1
    omega
theorem me_studyA {d : Nat} {hb : sm_H} {Y : wk_Y} (hL : sy_L hb Y) (hA : sy_A hb) (hSb : ab_Sh sx_sk hb) : me_E (d + 3) 194 0 [some (.inr (.inr 109)), none, none, none] [] hb (fun w h' => sz_Q hb w h' ∧ ∀ (β : Int → Int64) (ρ : Int → List Int), bt_ok β hb → rh_ok hb ρ → sz_Z β ρ hb w h') := by
  have k := me_E.all (ι := (Int → Int64) × (Int → List Int)) (Q := fun i w h' => bt_ok i.1 hb → rh_ok hb i.2 → sz_Z i.1 i.2 hb w h') (fun _ => 0, fun _ => []) (d := d + 3) (m := 194) (pc := 0) (ls := [some (.inr (.inr 109)), none, none, none]) (st := []) (h := hb) (fun i => by
    by_cases c : bt_ok i.1 hb ∧ rh_ok hb i.2
    · exact (me_studyz c.1 c.2 hL hA hSb).imp (fun w h' hq _ _ => hq)
    · exact (me_studyx hL hA hSb).imp (fun w h' _ a b => absurd ⟨a, b⟩ c))
  exact ((me_studyx hL hA hSb).and k).imp (fun w h' hq => ⟨hq.1, fun β ρ a b => hq.2 (β, ρ) a b⟩)
theorem me_compile5r {h : sm_H} (hS : ab_Sh sx_sk h) : me_E 60 175 0 [some (.inr (.inr 109)), none] [] h (co_5 h) := by
  refine mt_coA (d := 40) hS ?_
  intro h1 g1 g2 g3
  refine ⟨_, (me_readx g1).and (rd_okf h1 g1), fun w h2 ow hq => ?_⟩
  obtain ⟨⟨g0, z0, z1, z2, z3⟩, rfl, q1, q2, q3⟩ := hq
  have en : mi_f h1 13953 = mi_f h 13953 := me_f (c := 13953) g3 hS rfl rfl
  have ec : mi_a h1 110 = mi_a h 110 := funext fun i => me_a (k := 110) g3 hS rfl rfl
  have n240 : 0 ≤ mi_f h 13953 ∧ mi_f h 13953 ≤ 240 := by have := me_fb (c := 13953) hS rfl; omega
  rw [en, ec] at z2 z3
  have F2 : ab_Fr mr_W h h2 := (g3.wide (fun c hc => ab_swr_ok (by decide) hc)).trans q2
  refine mt_coB (d := 40) q1 ?_ ?_
  · intro b c h3 r1 r2 r3 r4 r5
    obtain ⟨Y, l1, l2⟩ := q3 c
    obtain ⟨lk, g, y1, y2, y3⟩ := z2 (by omega)
    have hPG : PG (mi_f h 13953) (mi_a h 110) g0 := ⟨z0, Or.inr ⟨g, h2, Y, y1, y2, y3, l1⟩⟩
    have hg : wk_gc (mi_a h2) (mi_a h3) := wk_gc_fr r5 q1 rfl
    have l1' : sy_L h3 Y := sy_L_fr2 l1 q1 r5 hg rfl
    have Q3 : RQ g h3 := RQ_same y3 q1 r5 (by decide)
    have W : PW g := by
      obtain ⟨k, a, hk, -⟩ := y1
      exact PW_ruTr k _ (PW_0 z0) hk
    have hQ := PQ_240 (PQ_D n240.1 z0 y1) n240.2
    have hA : sy_A h3 := TW_A Q3 W l1'
    refine ⟨_, me_studyA (d := 56) l1' hA r1, fun w h4 ow hq => ?_⟩
    obtain ⟨⟨rfl, s1, s2, -⟩, hz⟩ := hq
    have l4 := sy_L_fr l1' r1 s2
    have Q4 : RQ g h4 := RQ_same Q3 r1 s2 (by decide)
    refine mt_coC (d := 40) s1 ?_
    intro h5 t1 t2
    have e := me_nil t2
    subst e
    refine ⟨_, me_checkx (d := 58) l4 t1 (j_plo Q4 W l4 hQ), fun w h6 ow hq => ?_⟩
    obtain ⟨e, z, rfl, oz, lz⟩ := hq
    subst e
    have F4 : ab_Fr mr_W h h6 := (F2.trans (r5.wide (fun c hc => ab_swr_ok (by decide) hc))).trans (s2.wide (fun c hc => ab_swr_ok (by decide) hc))
    have fin : ∀ h7, ab_Fr [(13959, 13960)] h6 h7 → (mi_f h7 13959 = if z = 0 then 2 else 1) → co_5 h (some (.inl z)) h7 := fun h7 w1 w2 => ⟨z, rfl, oz, g0, hPG, Or.inr ⟨g, y1, y2, h3, h6, Y, r1, t1, F4, s2, Q3, Q4, l1', l4, hz, lz, w1, w2, lc_okf (lc_okf lk q1 r5 (by decide)) r1 s2 (by decide), by rw [(hg.trans (wk_gc_fr s2 r1 rfl)) 114 (by decide) 0]; exact l2⟩⟩
    refine mt_coD (d := 40) t1 oz ?_ ?_
    · intro c h7 u1 u2 u3
      exact fin h7 u3 (by first | (rw [if_pos c]; exact u2) | (rw [if_neg c]; exact u2))
    · intro c h7 u1 u2 u3
      exact fin h7 u3 (by first | (rw [if_pos c]; exact u2) | (rw [if_neg c]; exact u2))
  · intro b c h3 r1 r2 r3 r4 r5 r6 r7
    have B := z3 (by omega)
    exact ⟨_, rfl, mi_inT _, g0, ⟨z0, Or.inl ⟨_, B⟩⟩, Or.inl B⟩
