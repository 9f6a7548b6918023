/-! grow again: what is left alone where it fails -/
section GC9
variable {d : Nat} {h : sm_H}
def gcn_W : List (Nat × Nat) := [(13056, 13057), (13184, 13185), (13312, 13313), (13440, 13441), (13699, 13704)]
def gcn_T (h : sm_H) (zx : Int64) (zf : Int) (x : Nat) (h' : sm_H) : Prop := ∃ h1, h' = h1 ++ [sm_exc x] ∧ ab_Sh sx_sk h1 ∧ ab_Fr gcn_W h h1 ∧ ((x = 13 ∧ (zf < 0 ∨ 20 < zf)) ∨ (x = 14 ∧ (0 ≤ zf ∧ zf ≤ 20) ∧ mi_f h 6543 = 0) ∨ (x = 15 ∧ (0 ≤ zf ∧ zf ≤ 20) ∧ mi_f h 6543 ≠ 0 ∧ gm_NO (mi_a h) (gx_k h) (gc_0 (mi_a h) zx zf)))
theorem me_growcn {zx : Int64} {zf : Int} (hS : ab_Sh sx_sk h) (of : mi_in zf) (hG : mi_f h 6543 ≠ 0 → ∃ f it Y, cg_G f it (mi_a h) Y (gx_k h) h ∧ wk_Lrule Y (mi_a h 114 0) ∧ f (mi_a h 114 0) = 0) : mg_E (gcn_T h zx zf) 245 158 0 [some (.inr (.inr 51)), some (.inr (.inl zx)), none, some (.inl zf)] [] h (gc_Q h zx zf) := by
  refine mt_khgA (d := 244) hS of ?_ ?_ ?_ ?_
  · intro c h1 g1 g2
    have e := me_nil g2
    subst e
    exact mg_thr (M := (4, 1, sb_158)) (x := 13) rfl rfl rfl ⟨h1, rfl, g1, ab_Fr.refl, Or.inl ⟨rfl, Or.inl c⟩⟩
  · intro b c1 c2 c3 h1 g1 g2 g3 g4
    obtain ⟨f, it, Y, k1, k2, k3⟩ := hG c3
    have hG1 := cg_G_fr k1 g4 hS rfl
    refine ⟨_, me_gwalk g1 hG1 k2.1 k2.2.1 k3 g2 g3 c1 c2, fun w h2 hw hq => ?_⟩
    obtain ⟨rfl, q1, q2, q3, q4⟩ := hq
    have F2n : ab_Fr gcn_W h h2 := (g4.wide (fun c hc => ab_swr_ok (by decide) hc)).trans (q2.wide (fun c hc => ab_swr_ok (by decide) hc))
    have F2 : ab_Fr gc_W h h2 := (g4.wide (fun c hc => ab_swr_ok (by decide) hc)).trans (q2.wide (fun c hc => ab_swr_ok (by decide) hc))
    refine mt_khgB (d := 244) q1 of ?_ ?_
    · intro b1 z h3 r1 r2
      have e := me_nil r2
      subst e
      rcases q4 with ⟨-, q4, -⟩ | ⟨-, -, s', q5, ⟨-, -, A, qa, qb, qc, -⟩, q6⟩
      · exfalso; omega
      obtain ⟨⟨t1, t2⟩, -, -, t3, -⟩ := q5
      have t3 : ((gm_T s').length : Int) ≤ 100 := t3
      refine ⟨_, me_gtake (d := 242) q1 (by omega) (by omega), fun w h4 hw hq => ?_⟩
      obtain ⟨rfl, u1, u2, u3, u4⟩ := hq
      refine mt_khgC (d := 244) u1 of ?_
      intro h5 v1 v2
      have e := me_nil v2
      subst e
      refine ⟨u1, F2.trans (u2.wide (fun c hc => ab_swr_ok (by decide) hc)), ⟨c1, c2⟩, c3, s', q6 [] rfl, by rw [u3, t1], by omega, ⟨u3.trans t1, fun k hk => ?_⟩, ?_, fun k hk => ?_⟩
      · obtain ⟨l, q, hl⟩ := t2 k hk
        obtain ⟨x1, x2, -⟩ := u4 k (by omega)
        exact ⟨l, q, by rw [x1, x2]; exact hl⟩
      · rw [show gm_T ((zx, zf, [], 0, []) : gm_S) = [] from gm_T_mk _ _ _ _ _, List.nil_append] at qa
        rw [qa]
        rw [show gm_D ((zx, zf, [], 0, []) : gm_S) = 0 from gm_D_mk _ _ _ _ _] at qb
        exact qb
      · rw [show gm_T ((zx, zf, [], 0, []) : gm_S) = [] from gm_T_mk _ _ _ _ _] at qa qc
        rw [List.nil_append] at qa
        have := qc k (by rw [← qa]; exact hk)
        rw [← qa] at this
        have e0 : ([] : List (Int × Int × Int)).length + k = k := Nat.zero_add k
        rw [e0] at this
        rw [this, (u4 k (by omega)).2.2]
    · intro b1 z h3 r1 r2
      have e := me_nil r2
      subst e
      rcases q4 with ⟨-, -, q4⟩ | ⟨-, q4, -⟩
      · exact mg_thr (M := (4, 1, sb_158)) (x := 15) rfl rfl rfl ⟨h3, rfl, q1, F2n, Or.inr (Or.inr ⟨rfl, ⟨c1, c2⟩, c3, q4 [] rfl⟩)⟩
      · exfalso; omega
  · intro b c1 c2 c3 h1 g1 g2
    have e := me_nil g2
    subst e
    exact mg_thr (M := (4, 1, sb_158)) (x := 14) rfl rfl rfl ⟨h1, rfl, g1, ab_Fr.refl, Or.inr (Or.inl ⟨rfl, ⟨c1, c2⟩, c3⟩)⟩
  · intro c1 c h1 g1 g2
    have e := me_nil g2
    subst e
    exact mg_thr (M := (4, 1, sb_158)) (x := 13) rfl rfl rfl ⟨h1, rfl, g1, ab_Fr.refl, Or.inl ⟨rfl, Or.inr c⟩⟩
/-- the reference's grow: frames -/
theorem me_growr0 {zx : Int64} {zf : Int} (hS : ab_Sh sx_sk h) (of : mi_in zf) (hY : 2 ≤ mi_f h 13959 → ∃ Y, wk_L (mi_a h) Y ∧ wk_Lrule Y (mi_a h 114 0) ∧ ∀ f, 0 ≤ f → f < wk_f Y → mi_a h 130 f.toNat ≤ 10000) : me_E (d + 20) 232 0 [some (.inr (.inr 109)), some (.inr (.inl zx)), none, some (.inl zf)] [] h (fun w h' => ab_Fr pr_Y h h' ∧ (mi_f h' 13952 ≠ 0 → ab_Fr pr_N h h')) := by
  refine mt_groA hS of ?_ ?_ ?_ ?_
  · intro c h1 g1 g2 g3
    exact ⟨g3.wide (fun c hc => ab_swr_ok (by decide) hc), fun _ => g3.wide (fun c hc => ab_swr_ok (by decide) hc)⟩
  · intro b c1 c2 c3 h2 g1 g2 g3 g4 g5
    obtain ⟨Y, l1, l2, l3⟩ := hY c3
    have hg : wk_gc (mi_a h) (mi_a h2) := wk_gc_fr g5 hS rfl
    have e14 : mi_a h2 114 0 = mi_a h 114 0 := hg 114 (by decide) 0
    have L2 : wk_L (mi_a h2) Y := wk_L_g l1 hg
    refine ⟨_, me_walkx (d := d + 12) (Y := Y) g1 L2 (by rw [e14]; exact l2) (by omega) (by omega), fun w h3 ow hq => ?_⟩
    obtain ⟨rfl, q4, q5, -⟩ := hq
    have F3 : ab_Fr pr_N h h3 := (g5.wide (fun c hc => ab_swr_ok (by decide) hc)).trans (q5.wide (fun c hc => ab_swr_ok (by decide) hc))
    refine mt_groB q4 of ?_ ?_
    · intro b1 c4 h4 r1 r2 r3
      refine ⟨_, me_takex (d := d + 19) r1, fun w h5 ow hq => ?_⟩
      obtain ⟨rfl, t0, t1, t2, t3⟩ := hq
      refine mt_groC t0 of (ow _ rfl) ?_
      intro h6 u1 u2
      have e6 := me_nil u2
      subst e6
      refine ⟨((F3.wide (fun c hc => ab_swr_ok (by decide) hc)).trans (r3.wide (fun c hc => ab_swr_ok (by decide) hc))).trans (t1.wide (fun c hc => ab_swr_ok (by decide) hc)), fun q => absurd ?_ q⟩
      rw [me_f (c := 13952) t1 r1 rfl rfl]
      exact r2
    · intro b1 c4 h4 r1 r2 r3
      have F4 : ab_Fr pr_N h h4 := F3.trans (r3.wide (fun c hc => ab_swr_ok (by decide) hc))
      exact ⟨F4.wide (fun c hc => ab_swr_ok (by decide) hc), fun _ => F4⟩
  · intro b c1 c2 c3 h1 g1 g2 g3
    exact ⟨g3.wide (fun c hc => ab_swr_ok (by decide) hc), fun _ => g3.wide (fun c hc => ab_swr_ok (by decide) hc)⟩
  · intro c1 c2 h1 g1 g2 g3
    exact ⟨g3.wide (fun c hc => ab_swr_ok (by decide) hc), fun _ => g3.wide (fun c hc => ab_swr_ok (by decide) hc)⟩
end GC9
