/-! set -/
section SET
variable {d : Nat} {h : sm_H}
theorem me_isName {zv : Int64} (hS : ab_Sh sx_sk h) : me_E (d + 2) 236 0 [some (.inr (.inr 109)), some (.inr (.inl zv)), none, none, none] [] h (fun w h' => h' = h ∧ ∃ z, w = some (.inl z) ∧ 0 ≤ z ∧ z ≤ 1) := by
  have lp : ∀ (N : Nat) (zw : Int64), zw.toInt < N → me_E (d + 2) 236 18 [some (.inr (.inr 109)), some (.inr (.inl zv)), none, some (.inr (.inl zw)), none] [] h (fun w h' => h' = h ∧ ∃ z, w = some (.inl z) ∧ 0 ≤ z ∧ z ≤ 1) := by
    intro N
    induction N with
    | zero =>
      intro zw hN
      refine mt_inB hS ?_ ?_ ?_ ?_
      · intro c h1 g1 g2
        have e := me_nil g2
        subst e
        refine ⟨_, me_kwOf g1, fun w h2 ow hq => ?_⟩
        obtain ⟨rfl, z, rfl, z0, z1⟩ := hq
        refine mt_inC g1 ⟨by omega, by omega⟩ ?_ ?_
        · intro c h3 r1 r2
          exact ⟨me_nil r2, _, rfl, by decide, by decide⟩
        · intro c h3 r1 r2
          exact ⟨me_nil r2, _, rfl, by decide, by decide⟩
      · intro c1 c2 h1 g1 g2
        exact ⟨me_nil g2, _, rfl, by decide, by decide⟩
      · intro c1 c2 c3 h1 g1 g2
        exfalso
        have := lg_pos c1
        omega
      · intro c1 c2 c3 h1 g1 g2
        exact ⟨me_nil g2, _, rfl, by decide, by decide⟩
    | succ N ih =>
      intro zw hN
      refine mt_inB hS ?_ ?_ ?_ ?_
      · intro c h1 g1 g2
        have e := me_nil g2
        subst e
        refine ⟨_, me_kwOf g1, fun w h2 ow hq => ?_⟩
        obtain ⟨rfl, z, rfl, z0, z1⟩ := hq
        refine mt_inC g1 ⟨by omega, by omega⟩ ?_ ?_
        · intro c h3 r1 r2
          exact ⟨me_nil r2, _, rfl, by decide, by decide⟩
        · intro c h3 r1 r2
          exact ⟨me_nil r2, _, rfl, by decide, by decide⟩
      · intro c1 c2 h1 g1 g2
        exact ⟨me_nil g2, _, rfl, by decide, by decide⟩
      · intro c1 c2 c3 h1 g1 g2
        have e := me_nil g2
        subst e
        have := lg_pos c1
        refine ih _ ?_
        rw [lg_shr5]
        omega
      · intro c1 c2 c3 h1 g1 g2
        exact ⟨me_nil g2, _, rfl, by decide, by decide⟩
  refine mt_inA hS ?_ ?_ ?_
  · intro c h1 g1 g2
    exact ⟨me_nil g2, _, rfl, by decide, by decide⟩
  · intro c1 c2 h1 g1 g2
    have e := me_nil g2
    subst e
    exact lp (zv.toInt.toNat + 1) zv (by omega)
  · intro c1 c2 h1 g1 g2
    exact ⟨me_nil g2, _, rfl, by decide, by decide⟩
theorem mj_val {h' : sm_H} {t : Nat} {v : Int64} (hJ : mj_0 h) (hS : ab_Sh sx_sk h) (hk : mi_a h 155 t = 2 ∨ mi_a h 155 t = 3) (hF : ab_Fr [(13952, 13953), (20736, 20737)] h h') (hv : ∀ i, mx_b h' 162 i = if i = t then v else mx_b h 162 i) : mj_0 h' := by
  have hg : wk_gc (mi_a h) (mi_a h') := wk_gc_fr hF hS rfl
  have hK : wk_K 2 h' = wk_K 2 h := funext fun k => by
    unfold wk_K
    rw [if_pos rfl, if_pos rfl]
    exact me_a (k := 155) hF hS rfl rfl
  unfold mj_0 mj_N
  rw [me_f (c := 13959) hF hS rfl rfl, me_f (c := 14015) hF hS rfl rfl, hK]
  refine ⟨fun a => mj_L_g hg (hJ.1 a), fun a => ⟨mj_L_g hg (hJ.2 a).1, tp_N_g hg ?_⟩⟩
  obtain ⟨Tm, st, x, y, z⟩ := (hJ.2 a).2
  refine ⟨Tm, st, x, ?_, z⟩
  rw [wk_tr_V (V := wk_V 2 h) (V' := wk_V 2 h') (fun k hk2 => ?_)]
  · exact y
  · have hk2 : mi_a h 155 k = 4 ∨ mi_a h 155 k = 5 ∨ mi_a h 155 k = 6 := hk2
    unfold wk_V
    rw [if_pos rfl, if_pos rfl, hv, if_neg (fun e => by subst e; omega)]
def st_Q (h : sm_H) (w : Option mi_V) (h' : sm_H) : Prop := (∃ z, w = some (.inl z) ∧ 0 ≤ z ∧ z ≤ 1) ∧ ab_Sh sx_sk h' ∧ ab_Fr mj_W h h' ∧ mj_0 h'
theorem me_set {zk : Int} {zv : Int64} (hS : ab_Sh sx_sk h) (hJ : mj_0 h) (ok : mi_in zk) : me_E (d + 20) 235 0 [some (.inr (.inr 109)), some (.inl zk), some (.inr (.inl zv)), none, none, none] [] h (st_Q h) := by
  have pass : ∀ h1, ab_Sh sx_sk h1 → ab_Fr [(13952, 13953)] h h1 → st_Q h (some (.inl 0)) h1 := fun h1 g1 g3 => ⟨⟨0, rfl, by decide, by decide⟩, g1, g3.wide (fun c hc => ab_swr_ok (by decide) hc), mj_0_fr hJ hS g3 rfl⟩
  have bo : 0 ≤ zk → zk < mi_f h 14015 → mi_f h 14015 ≤ 100 → 0 ≤ mi_a h 157 (Int.toNat zk) ∧ mi_a h 157 (Int.toNat zk) ≤ 99 := fun a b c => me_ab (k := 157) (i := zk.toNat) hS rfl (by decide) (by omega)
  refine mt_seA hS ok ?_ ?_ ?_ ?_ ?_ ?_ ?_
  · intro c h1 g1 g2 g3
    exact pass h1 g1 g3
  · intro b c1 c2 c3 c4
    have := bo c1 c2 b.2
    exact ⟨by omega, fun h1 g1 g2 g3 => pass h1 g1 g3⟩
  · intro b c1 c2 c3 c4
    have hb := bo c1 c2 b.2
    refine ⟨by omega, fun h1 g1 g2 g3 => ⟨_, me_isName (d := d + 17) g1, fun w h2 ow hq => ?_⟩⟩
    obtain ⟨e, z, rfl, z0, z1⟩ := hq
    subst e
    refine mt_seB g1 ok (mi_inT _) ⟨by omega, by omega⟩ ?_ ?_
    · intro c h3 r1 r2
      have e := me_nil r2
      subst e
      exact pass _ g1 g3
    · intro c
      refine ⟨by omega, fun h3 r1 r2 r3 => ?_⟩
      have F : ab_Fr [(13952, 13953), (20736, 20737)] h h3 := (g3.wide (fun c hc => ab_swr_ok (by decide) hc)).trans (r3.wide (fun c hc => ab_swr_ok (by decide) hc))
      refine ⟨⟨1, rfl, by decide, by decide⟩, r1, F.wide (fun c hc => ab_swr_ok (by decide) hc), mj_val (v := zv) hJ hS (Or.inr c4) F (fun i => ?_)⟩
      rw [r2, me_b (k := 162) g3 hS rfl rfl]
  · intro b c1 c2 c3 c4
    have := bo c1 c2 b.2
    exact ⟨by omega, fun h1 g1 g2 g3 => pass h1 g1 g3⟩
  · intro b c1 c2 c3 c4 c5
    have := bo c1 c2 b.2
    exact ⟨by omega, fun h1 g1 g2 g3 => pass h1 g1 g3⟩
  · intro b c1 c2 c3 c4 c5
    have := bo c1 c2 b.2
    refine ⟨by omega, fun h1 g1 g2 g3 g4 => ?_⟩
    exact ⟨⟨1, rfl, by decide, by decide⟩, g1, g4.wide (fun c hc => ab_swr_ok (by decide) hc), mj_val hJ hS (Or.inl c3) g4 g3⟩
  · intro b c1 c2 h1 g1 g2 g3
    exact pass h1 g1 g3
end SET
