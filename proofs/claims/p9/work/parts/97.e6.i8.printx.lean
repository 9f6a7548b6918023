/-! print of the reference, exactly -/
section DMG
variable {g g' : wk_g} {V : Int → Int}
theorem dm_sg_g (hg : wk_gc g g') {l u : Int} {r : List wk_E} {s : gm_S} : dm_sg l g' V u r s = dm_sg l g V u r s := by
  unfold dm_sg
  rw [hg 119 (by decide), hg 120 (by decide), hg 115 (by decide), pm_en_g hg]
theorem dm_st_g (hg : wk_gc g g') {l : Int} : dm_st g' V l = dm_st g V l := by
  funext e r s
  unfold dm_st dm_u dm_fo dm_ag
  simp only [dm_sg_g hg, hg 122 (by decide), hg 130 (by decide), hg 126 (by decide), wk_it_g hg, wk_alt_g hg, hg 129 (by decide)]
theorem dv_g (hg : wk_gc g g') : dv g' V = dv g V := by
  funext e s
  unfold dv dv_lf
  simp only [hg 122 (by decide), hg 119 (by decide)]
theorem ofd_g {Lr : Nat → Int} (hg : wk_gc g g') : ∀ (L : List (Int × Int)) (x : Option ox), ofd Lr g' L x = ofd Lr g L x := by
  intro L
  induction L with
  | nil => intro x; rfl
  | cons p L ih =>
    intro x
    show ofd Lr g' L _ = ofd Lr g L _
    rw [ih, hg 119 (by decide), hg 120 (by decide)]
end DMG
theorem zp_G_fr {Y : wk_Y} {h h' : sm_H} {N : Nat} {sN : gm_S} {LN : List (Int × Int)} {wr : List (Nat × Nat)} (hG : zp_G Y h N sN LN) (hS : ab_Sh sx_sk h) (hF : ab_Fr wr h h') (hw : wk_gk.all (fun k => !ab_in wr (k * 128)) = true) (w3 : ab_in wr 20736 = false) (w4 : ab_in wr 14976 = false) (w5 : ab_in wr 15104 = false) : zp_G Y h' N sN LN ∧ ∀ x, zp_f h' LN x = zp_f h LN x := by
  have hg : wk_gc (mi_a h) (mi_a h') := wk_gc_fr hF hS hw
  have ev : yv h' = yv h := funext fun c => by unfold yv; rw [me_b (k := 162) hF hS rfl w3]
  have e4 : ∀ i, mi_a h' 117 i = mi_a h 117 i := fun i => me_a (k := 117) hF hS rfl w4
  have e5 : ∀ i, mx_b h' 118 i = mx_b h 118 i := fun i => me_b (k := 118) hF hS rfl w5
  have eL : tq_L h' = tq_L h := funext fun k => by unfold tq_L; rw [e5, e4]
  have e0 : tr_0 (mi_a h') = tr_0 (mi_a h) := by unfold tr_0; rw [hg 114 (by decide)]
  obtain ⟨k1, k2, k3, k4, k5, k6⟩ := hG
  refine ⟨⟨?_, k2, ?_, k4, fun u u0 u1 => px_W_g hg (k5 u u0 u1), fun u u0 u1 q => ?_⟩, fun x => ?_⟩
  · rw [ev, dm_st_g hg, dv_g hg, e0]
    exact k1
  · rw [ev]
    exact k3
  · rw [hg 119 (by decide)] at q
    rw [hg 120 (by decide), e5, e4]
    exact k6 u u0 u1 q
  · unfold zp_f
    rw [eL, ofd_g hg]
def prx_N : List (Nat × Nat) := [(13952, 13953), (14016, 14017), (14028, 14038), (14044, 14048), (18560, 18561), (20224, 20481), (20864, 20865), (21120, 21761)]
def prx_Y : List (Nat × Nat) := (13955, 13956) :: (14336, 14337) :: prx_N
/-- what print does: nothing to the output, or what the leaves print -/
def prx_X (h : sm_H) (R : Option ox) (w : Option mi_V) (h' : sm_H) : Prop := ab_Sh sx_sk h' ∧ (mi_f h 14015 = 0 → mi_f h' 13952 = 1 ∧ ab_Fr prx_N h h') ∧ (mi_f h 14015 ≠ 0 → (R = none ∧ mi_f h' 13952 = 2 ∧ ab_Fr prx_N h h') ∨ ∃ o, R = some o ∧ mi_f h' 13952 = 0 ∧ w = some (.inl (o.1.length : Int)) ∧ mi_f h' 13955 = (o.1.length : Int) ∧ o.1.length ≤ 160 ∧ (∀ k : Nat, k < o.1.length → o.1[k]? = some (mi_a h' 112 k)) ∧ ab_Fr prx_Y h h')
section PRX2
variable {d : Nat} {h : sm_H}
theorem me_printx {R : Option ox} (hS : ab_Sh sx_sk h) (hY : mi_f h 14015 ≠ 0 → ∃ Y N sN LN n, wk_L (mi_a h) Y ∧ wk_Lrule Y (mi_a h 114 0) ∧ tp_N (mi_a h) (wk_K 2 h) (wk_V 2 h) n ∧ n ≤ 100 ∧ zp_G Y h N sN LN ∧ R = zp_f h LN (some ([], 0, 0, 0))) : me_E (d + 20) 205 0 [some (.inr (.inr 109)), none] [] h (prx_X h R) := by
  refine mt_prA hS ?_ ?_
  · intro b c h2 g1 g2 g3 g4 g5 g6 g7
    obtain ⟨Y, N, sN, LN, n, l1, l2, l3, l4, l5, l6⟩ := hY c
    have hg : wk_gc (mi_a h) (mi_a h2) := wk_gc_fr g7 hS rfl
    obtain ⟨z1, z2⟩ := zp_G_fr l5 hS g7 rfl rfl rfl rfl
    have eK : wk_K 2 h2 = wk_K 2 h := funext fun k => by unfold wk_K; rw [if_pos rfl, if_pos rfl]; exact me_a (k := 155) g7 hS rfl rfl
    have eV : wk_V 2 h2 = wk_V 2 h := funext fun k => by unfold wk_V; rw [if_pos rfl, if_pos rfl, me_b (k := 162) g7 hS rfl rfl]
    have e14 : mi_a h2 114 0 = mi_a h 114 0 := hg 114 (by decide) 0
    have hN2 : tp_N (mi_a h2) (wk_K 2 h2) (wk_V 2 h2) n := by
      rw [eK, eV]
      exact tp_N_g hg l3
    refine ⟨_, me_walky (d := d + 12) (Y := Y) g1 (wk_L_g l1 hg) (by rw [e14]; exact l2) hN2 l4 z1 ⟨g4, g5, g6, g3⟩, fun w h3 ow hq => ?_⟩
    obtain ⟨rfl, q1, q2, q3⟩ := hq
    rw [z2, ← l6] at q3
    have F3 : ab_Fr prx_N h h3 := (g7.wide (fun c hc => ab_swr_ok (by decide) hc)).trans (q2.wide (fun c hc => ab_swr_ok (by decide) hc))
    refine mt_prB q1 ?_ ?_
    · intro b1 c1 h4 r1 r2 r3
      have F4 : ab_Fr prx_Y h h4 := (F3.wide (fun c hc => ab_swr_ok (by decide) hc)).trans (r3.wide (fun c hc => ab_swr_ok (by decide) hc))
      rcases q3 with ⟨-, q3⟩ | ⟨o, q3, q4, o1, o2, -⟩
      · exfalso; omega
      have p37 : mi_f h4 14037 = (o.1.length : Int) := (me_f (c := 14037) r3 q1 rfl rfl).trans o1
      have p170 : ∀ k : Nat, k < o.1.length → o.1[k]? = some (mi_a h4 170 k) := fun k hk => by
        rw [me_a (k := 170) r3 q1 rfl rfl]
        exact o2 k hk
      have b37 := me_fb (c := 14037) r1 rfl
      have cp : ∀ (J : Nat) (zk : Int) (h5 : sm_H), (o.1.length : Int) - zk < J → 0 ≤ zk → zk ≤ (o.1.length : Int) → ab_Sh sx_sk h5 → ab_Fr [(14336, 14337)] h4 h5 → (∀ k : Nat, (k : Int) < zk → mi_a h5 112 k = mi_a h4 170 k) → me_E (d + 20) 205 77 [some (.inr (.inr 109)), some (.inl zk)] [] h5 (prx_X h R) := by
        intro J
        induction J with
        | zero => intro zk h5 hN _ _; exfalso; omega
        | succ J ih =>
          intro zk h5 hN k0 k1 s1 s2 s3
          have s37 : mi_f h5 14037 = (o.1.length : Int) := (me_f (c := 14037) s2 r1 rfl rfl).trans p37
          refine mt_prC s1 ⟨by omega, by omega⟩ ?_ ?_
          · intro b2 c2
            refine ⟨by omega, fun h6 t1 t2 t3 => ⟨t1, fun q => absurd q c, fun _ => Or.inr ⟨o, q3, ?_, by rw [s37], t2.trans s37, by omega, fun k hk => ?_, (F4.trans (s2.wide (fun c hc => ab_swr_ok (by decide) hc))).trans (t3.wide (fun c hc => ab_swr_ok (by decide) hc))⟩⟩⟩
            · rw [me_f (c := 13952) t3 s1 rfl rfl, me_f (c := 13952) s2 r1 rfl rfl]
              exact r2
            · rw [me_a (k := 112) t3 s1 rfl rfl, s3 k (by omega)]
              exact p170 k hk
          · intro b2 c2
            refine ⟨by omega, fun h6 t1 t2 t3 => ?_⟩
            refine ih (zk + 1) h6 (by omega) (by omega) (by omega) t1 (s2.trans t3) (fun k hk => ?_)
            rw [t2]
            by_cases e : k = zk.toNat
            · rw [if_pos e, me_a (k := 170) s2 r1 rfl rfl, e]
            · rw [if_neg e]
              exact s3 k (by omega)
      exact cp 200 0 h4 (by omega) (by decide) (by omega) r1 ab_Fr.refl (fun k hk => by exfalso; omega)
    · intro b1 c1 h4 r1 r2 r3
      rcases q3 with ⟨q3, -⟩ | ⟨o, -, q4, -⟩
      · exact ⟨r1, fun q => absurd q c, fun _ => Or.inl ⟨q3, r2, F3.trans (r3.wide (fun c hc => ab_swr_ok (by decide) hc))⟩⟩
      · exact absurd q4 c1
  · intro b c h1 g1 g2 g3
    exact ⟨g1, fun _ => ⟨g2, g3.wide (fun c hc => ab_swr_ok (by decide) hc)⟩, fun q => absurd c q⟩
end PRX2
