/-! what holds between the reference's calls -/
section MJX
variable {g g' : wk_g}
theorem wk_tr_g (hg : wk_gc g g') (K V : Nat → Int) (s : List wk_E × Nat) : ∀ n, wk_tr g' K V n s = wk_tr g K V n s := by
  intro n
  induction n with
  | zero => rfl
  | succ n ih =>
    unfold wk_tr
    rw [ih]
    exact congrArg _ (funext fun x => wk_pf_g hg K V x)
theorem wk_0_g (hg : wk_gc g g') : wk_0 g' = wk_0 g := by
  unfold wk_0
  rw [hg 114 (by decide)]
theorem tp_N_g {K V : Nat → Int} {n : Nat} (hg : wk_gc g g') (h : tp_N g K V n) : tp_N g' K V n := by
  obtain ⟨Tm, st, a, b, c⟩ := h
  refine ⟨Tm, st, a, ?_, c⟩
  rw [wk_tr_g hg, wk_0_g hg]
  exact b
end MJX
def mj_L (h : sm_H) : Prop := ∃ Y, wk_L (mi_a h) Y ∧ wk_Lrule Y (mi_a h 114 0)
def mj_N (h : sm_H) : Prop := tp_N (mi_a h) (wk_K 2 h) (wk_V 2 h) (mi_f h 14015).toNat
def mj_0 (h : sm_H) : Prop := (2 ≤ mi_f h 13959 → mj_L h) ∧ (mi_f h 14015 ≠ 0 → mj_L h ∧ mj_N h)
def mj_W : List (Nat × Nat) := [(13952, 21889)]
section MJY
variable {h h' : sm_H} {wr : List (Nat × Nat)}
theorem mj_L_g (hg : wk_gc (mi_a h) (mi_a h')) (hL : mj_L h) : mj_L h' := by
  obtain ⟨Y, a, b⟩ := hL
  refine ⟨Y, wk_L_g a hg, ?_⟩
  rw [hg 114 (by decide)]
  exact b
def mj_no (wr : List (Nat × Nat)) : Bool := wk_gk.all (fun k => !ab_in wr (k * 128)) && !ab_in wr 13959 && !ab_in wr 14015 && !ab_in wr 19840 && !ab_in wr 20736
theorem mj_0_fr (hJ : mj_0 h) (hS : ab_Sh sx_sk h) (hF : ab_Fr wr h h') (hw : mj_no wr = true) : mj_0 h' := by
  unfold mj_no at hw
  simp only [Bool.and_eq_true, Bool.not_eq_true'] at hw
  obtain ⟨⟨⟨⟨w1, w2⟩, w3⟩, w4⟩, w5⟩ := hw
  have hg : wk_gc (mi_a h) (mi_a h') := wk_gc_fr hF hS w1
  have hK := wk_KV2 hF hS (by rw [w4, w5]; rfl)
  unfold mj_0 mj_N
  rw [me_f (c := 13959) hF hS rfl w2, me_f (c := 14015) hF hS rfl w3, hK.1, hK.2]
  exact ⟨fun a => mj_L_g hg (hJ.1 a), fun a => ⟨mj_L_g hg (hJ.2 a).1, tp_N_g hg (hJ.2 a).2⟩⟩
end MJY
def ta_W : List (Nat × Nat) := [(14015, 14016), (19840, 19841), (19968, 19969), (20096, 20097), (20736, 20737)]
section TAK
variable {d : Nat} {h : sm_H}
theorem me_take (hS0 : ab_Sh sx_sk h) : me_E d 231 0 [some (.inr (.inr 109)), none] [] h (fun w h' => (∃ z, w = some (.inl z) ∧ mi_in z) ∧ ab_Sh sx_sk h' ∧ ab_Fr ta_W h h' ∧ mi_f h' 14015 = mi_f h 14016 ∧ ∀ i : Nat, (i : Int) < mi_f h 14016 → mi_a h' 155 i = mi_a h 158 i ∧ mx_b h' 162 i = mx_b h 163 i) := by
  have b0 := me_fb (c := 14016) hS0 rfl
  have main : ∀ (N : Nat) (zk : Int) (h1 : sm_H), mi_f h 14016 - zk < N → 0 ≤ zk → zk ≤ mi_f h 14016 → ab_Sh sx_sk h1 → ab_Fr ta_W h h1 → mi_f h1 14015 = mi_f h 14016 → (∀ i : Nat, (i : Int) < zk → mi_a h1 155 i = mi_a h 158 i ∧ mx_b h1 162 i = mx_b h 163 i) → me_E d 231 10 [some (.inr (.inr 109)), some (.inl zk)] [] h1 (fun w h' => (∃ z, w = some (.inl z) ∧ mi_in z) ∧ ab_Sh sx_sk h' ∧ ab_Fr ta_W h h' ∧ mi_f h' 14015 = mi_f h 14016 ∧ ∀ i : Nat, (i : Int) < mi_f h 14016 → mi_a h' 155 i = mi_a h 158 i ∧ mx_b h' 162 i = mx_b h 163 i) := by
    intro N
    induction N with
    | zero => intro zk h1 hN _ _; exfalso; omega
    | succ N ih =>
      intro zk h1 hN k0 k1 hS hF hn hi
      have e16 : mi_f h1 14016 = mi_f h 14016 := me_f (c := 14016) hF hS0 rfl rfl
      refine mt_taB hS ⟨by omega, by omega⟩ ?_ ?_
      · intro b c h2 g1 g2
        have e2 := me_nil g2
        subst e2
        have bn := me_fb (c := 14015) hS rfl
        exact ⟨⟨_, rfl, by omega, by omega⟩, hS, hF, hn, fun i hi2 => hi i (by omega)⟩
      · intro b c
        have bo := me_ab (k := 160) (i := zk.toNat) hS rfl (by decide) (by omega)
        refine ⟨by omega, fun h2 g1 g2 g3 g4 g5 g6 => ?_⟩
        refine ih (zk + 1) h2 (by omega) (by omega) (by omega) g1 (hF.trans (g6.wide (fun c hc => ab_swr_ok (by decide) hc))) ((me_f (c := 14015) g6 hS rfl rfl).trans hn) (fun i hi2 => ?_)
        rw [g2, g5]
        by_cases e : i = zk.toNat
        · rw [if_pos e, if_pos e, me_a (k := 158) hF hS0 rfl rfl, me_b (k := 163) hF hS0 rfl rfl, e]
          exact ⟨rfl, rfl⟩
        · rw [if_neg e, if_neg e]
          exact hi i (by omega)
  refine mt_taA hS0 ?_
  intro b
  refine ⟨by omega, fun h1 g1 g2 g3 => ?_⟩
  exact main 200 0 h1 (by omega) (by decide) (by omega) g1 (g3.wide (fun c hc => ab_swr_ok (by decide) hc)) g2 (fun i hi => by exfalso; omega)
end TAK
