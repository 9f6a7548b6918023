/-! grow of the reference, exactly -/
section GRX
variable {g g' : wk_g} {kw : Int → Bool}
theorem gm_st_g (hg : wk_gc g g') (h3 : ∀ i, g' 143 i = g 143 i) {e : wk_E} {r : List wk_E} {s : gm_S} : gm_st g' kw e r s = gm_st g kw e r s := by
  unfold gm_st
  simp only [hg 122 (by decide), gm_sg_g hg, hg 130 (by decide), hg 126 (by decide), gm_w_g hg h3, wk_it_g hg, wk_alt_g hg, hg 129 (by decide)]
theorem gm_to_g (hg : wk_gc g g') (h3 : ∀ i, g' 143 i = g 143 i) {c1 : gm_C} : ∀ (n : Nat) (c : gm_C), gm_to g' kw n c c1 → gm_to g kw n c c1 := by
  intro n
  induction n with
  | zero => intro c h; exact h
  | succ n ih =>
    intro c h
    obtain ⟨e, r, c2, a1, a2, a3⟩ := h
    exact ⟨e, r, c2, a1, by rw [← gm_st_g hg h3]; exact a2, ih c2 a3⟩
theorem gm_no_g (hg : wk_gc g g') (h3 : ∀ i, g' 143 i = g 143 i) : ∀ (n : Nat) (c : gm_C), gm_no g' kw n c → gm_no g kw n c := by
  intro n
  induction n with
  | zero =>
    intro c h
    obtain ⟨e, r, a1, a2⟩ := h
    exact ⟨e, r, a1, by rw [← gm_st_g hg h3]; exact a2⟩
  | succ n ih =>
    intro c h
    obtain ⟨e, r, c2, a1, a2, a3⟩ := h
    exact ⟨e, r, c2, a1, by rw [← gm_st_g hg h3]; exact a2, ih c2 a3⟩
end GRX
/-- the tree that was taken: what is the k-th node, through the order -/
def gs_T (h : sm_H) (T : List (Int × Int × Int)) : Prop := mi_f h 14015 = (T.length : Int) ∧ (∀ k : Nat, k < T.length → 0 ≤ mi_a h 157 k ∧ mi_a h 157 k < (T.length : Int) ∧ T[k]? = some (mi_a h 155 (mi_a h 157 k).toNat + 10 * mi_a h 157 k, (mx_b h 162 (mi_a h 157 k).toNat).toInt, mi_a h 156 (mi_a h 157 k).toNat) ∧ 0 ≤ mi_a h 155 (mi_a h 157 k).toNat ∧ mi_a h 155 (mi_a h 157 k).toNat < 10) ∧ ∀ k j : Nat, k < T.length → j < T.length → mi_a h 157 k = mi_a h 157 j → k = j
section GRY
variable {d : Nat} {h : sm_H}
theorem me_takex (hS0 : ab_Sh sx_sk h) : me_E d 231 0 [some (.inr (.inr 109)), none] [] h (fun w h' => w = some (.inl (mi_f h 14016)) ∧ ab_Sh sx_sk h' ∧ ab_Fr ta_W h h' ∧ mi_f h' 14015 = mi_f h 14016 ∧ ∀ i : Nat, (i : Int) < mi_f h 14016 → (mi_a h' 155 i = mi_a h 158 i ∧ mi_a h' 156 i = mi_a h 159 i) ∧ mi_a h' 157 i = mi_a h 160 i ∧ mx_b h' 162 i = mx_b h 163 i) := by
  have b0 := me_fb (c := 14016) hS0 rfl
  have main : ∀ (N : Nat) (zk : Int) (h1 : sm_H), mi_f h 14016 - zk < N → 0 ≤ zk → zk ≤ mi_f h 14016 → ab_Sh sx_sk h1 → ab_Fr ta_W h h1 → mi_f h1 14015 = mi_f h 14016 → (∀ i : Nat, (i : Int) < zk → (mi_a h1 155 i = mi_a h 158 i ∧ mi_a h1 156 i = mi_a h 159 i) ∧ mi_a h1 157 i = mi_a h 160 i ∧ mx_b h1 162 i = mx_b h 163 i) → me_E d 231 10 [some (.inr (.inr 109)), some (.inl zk)] [] h1 (fun w h' => w = some (.inl (mi_f h 14016)) ∧ ab_Sh sx_sk h' ∧ ab_Fr ta_W h h' ∧ mi_f h' 14015 = mi_f h 14016 ∧ ∀ i : Nat, (i : Int) < mi_f h 14016 → (mi_a h' 155 i = mi_a h 158 i ∧ mi_a h' 156 i = mi_a h 159 i) ∧ mi_a h' 157 i = mi_a h 160 i ∧ mx_b h' 162 i = mx_b h 163 i) := by
    intro N
    induction N with
    | zero => intro zk h1 hN _ _; exfalso; omega
    | succ N ih =>
      intro zk h1 hN k0 k1 hS hF hn hi
      have e16 : mi_f h1 14016 = mi_f h 14016 := me_f (c := 14016) hF hS0 rfl rfl
      refine mt_taB hS ⟨by omega, by omega⟩ ?_ ?_
      · intro b c h2 g1 g2
        have e2 := me_nil g2
        subst e2
        exact ⟨by rw [hn], hS, hF, hn, fun i hi2 => hi i (by omega)⟩
      · intro b c
        have bo := me_ab (k := 160) (i := zk.toNat) hS rfl (by decide) (by omega)
        refine ⟨by omega, fun h2 g1 g2 g3 g4 g5 g6 => ?_⟩
        refine ih (zk + 1) h2 (by omega) (by omega) (by omega) g1 (hF.trans (g6.wide (fun c hc => ab_swr_ok (by decide) hc))) ((me_f (c := 14015) g6 hS rfl rfl).trans hn) (fun i hi2 => ?_)
        rw [g2, g3, g4, g5]
        by_cases e : i = zk.toNat
        · rw [if_pos e, if_pos e, if_pos e, if_pos e, me_a (k := 158) hF hS0 rfl rfl, me_a (k := 159) hF hS0 rfl rfl, me_a (k := 160) hF hS0 rfl rfl, me_b (k := 163) hF hS0 rfl rfl, e]
          exact ⟨⟨rfl, rfl⟩, rfl, rfl⟩
        · rw [if_neg e, if_neg e, if_neg e, if_neg e]
          exact hi i (by omega)
  refine mt_taA hS0 ?_
  intro b
  refine ⟨by omega, fun h1 g1 g2 g3 => ?_⟩
  exact main 200 0 h1 (by omega) (by decide) (by omega) g1 (g3.wide (fun c hc => ab_swr_ok (by decide) hc)) g2 (fun i hi => by exfalso; omega)
theorem gs_T_of {h h' : sm_H} {T : List (Int × Int × Int)} (hT : gx_T h T) (e1 : mi_f h' 14015 = mi_f h 14016) (e2 : ∀ i : Nat, (i : Int) < mi_f h 14016 → (mi_a h' 155 i = mi_a h 158 i ∧ mi_a h' 156 i = mi_a h 159 i) ∧ mi_a h' 157 i = mi_a h 160 i ∧ mx_b h' 162 i = mx_b h 163 i) : gs_T h' T := by
  obtain ⟨t1, t2, t3⟩ := hT
  refine ⟨e1.trans t1, fun k hk => ?_, fun k j hk hj e => ?_⟩
  · obtain ⟨a1, a2, a3⟩ := t2 k hk
    obtain ⟨-, b3, -⟩ := e2 k (by omega)
    rw [b3]
    obtain ⟨⟨c1, c2⟩, -, c4⟩ := e2 (mi_a h 160 k).toNat (by omega)
    rw [c1, c2, c4]
    exact ⟨a1, a2, a3⟩
  · rw [(e2 k (by omega)).2.1, (e2 j (by omega)).2.1] at e
    exact t3 k j hk hj e
/-- from where the growing walk goes -/
def gr_c0 (g : wk_g) (x : Int64) (fu : Int) : gm_C := ([(1, g 114 0, 0), (2, 1, 0)], (x, fu - 1, [(1, 0, 0)], 1, []))
def gr_X (h : sm_H) (zx : Int64) (zf : Int) (w : Option mi_V) (h' : sm_H) : Prop := ((zf < 0 ∨ 20 < zf) → mi_f h' 13952 = 1) ∧ (0 ≤ zf → zf ≤ 20 → mi_f h 13959 < 2 → mi_f h' 13952 = 2) ∧ (0 ≤ zf → zf ≤ 20 → 2 ≤ mi_f h 13959 → ((∃ n, gm_no (mi_a h) (gx_k h) n (gr_c0 (mi_a h) zx zf)) ∧ mi_f h' 13952 = 3) ∨ ∃ n s', gm_to (mi_a h) (gx_k h) n (gr_c0 (mi_a h) zx zf) ([], s') ∧ mi_f h' 13952 = 0 ∧ w = some (.inl ((gm_T s').length : Int)) ∧ gs_T h' (gm_T s'))
theorem me_growx {zx : Int64} {zf : Int} (hS : ab_Sh sx_sk h) (of : mi_in zf) (hY : 2 ≤ mi_f h 13959 → ∃ Y, wk_L (mi_a h) Y ∧ wk_Lrule Y (mi_a h 114 0) ∧ ∀ f, 0 ≤ f → f < wk_f Y → mi_a h 130 f.toNat ≤ 10000) : me_E (d + 20) 232 0 [some (.inr (.inr 109)), some (.inr (.inl zx)), none, some (.inl zf)] [] h (gr_X h zx zf) := by
  refine mt_groA hS of ?_ ?_ ?_ ?_
  · intro c h1 g1 g2 g3
    exact ⟨fun _ => g2, fun a => by omega, fun a => by omega⟩
  · intro b c1 c2 c3 h2 g1 g2 g3 g4 g5
    obtain ⟨Y, l1, l2, l3⟩ := hY c3
    have hg : wk_gc (mi_a h) (mi_a h2) := wk_gc_fr g5 hS rfl
    have h143 : ∀ i, mi_a h2 143 i = mi_a h 143 i := fun i => me_a (k := 143) g5 hS rfl rfl
    have hk : gx_k h2 = gx_k h := gx_k_fr g5 hS rfl rfl
    have e14 : mi_a h2 114 0 = mi_a h 114 0 := hg 114 (by decide) 0
    have L2 : wk_L (mi_a h2) Y := wk_L_g l1 hg
    refine ⟨_, me_walkx (d := d + 12) (Y := Y) g1 L2 (by rw [e14]; exact l2) (by omega) (by omega), fun w h3 ow hq => ?_⟩
    obtain ⟨rfl, q4, q5, q6⟩ := hq
    rw [e14, g3, g4] at q6
    have hK0 : gm_K Y [(1, mi_a h 114 0, 0), (2, 1, 0)] := ⟨gm_k_1 l2.1 l2.2.1 l2.2.2, gm_k_o (by decide) (by decide) (by decide), trivial⟩
    refine mt_groB q4 of ?_ ?_
    · intro b1 c4 h4 r1 r2 r3
      refine ⟨_, me_takex (d := d + 19) r1, fun w h5 ow hq => ?_⟩
      obtain ⟨rfl, t0, t1, t2, t3⟩ := hq
      refine mt_groC t0 of (ow _ rfl) ?_
      intro h6 u1 u2
      have e6 := me_nil u2
      subst e6
      refine ⟨fun a => by omega, fun a1 a2 a3 => by omega, fun _ _ _ => Or.inr ?_⟩
      rcases q6 with q6 | ⟨zt, z0, z1, z2, hI, s, hR, hto, hJ⟩
      · exfalso; omega
      · have hto := gm_to_g hg h143 _ _ hto
        rw [hk] at hto
        -- the limit of turns is not reached
        have hpot := gm_to_pot l1 gm_vbt l3 zt.toNat _ (show gm_K Y (gr_c0 (mi_a h) zx zf).1 from hK0) hto
        obtain ⟨-, p2, p3⟩ := hpot
        have pnn : 0 ≤ gm_pot Y (wk_stk h3) := by
          have := (gm_to_pot l1 gm_vbt l3 zt.toNat _ (show gm_K Y (gr_c0 (mi_a h) zx zf).1 from hK0) hto).1
          exact gm_pot_nn l1 _ this
        have jl := hJ.2.2.1.2
        dsimp only at jl
        have est : wk_stk h3 = [] := by
          rcases z2 with z2 | z2
          · exact z2
          · exfalso
            have e0 : gm_len (gr_c0 (mi_a h) zx zf).2 = 1 := by
              unfold gr_c0 gm_len
              rw [gm_T_mk]
              rfl
            have ep : gm_pot Y (gr_c0 (mi_a h) zx zf).1 ≤ 182 := by
              show gm_e1 Y (1, mi_a h 114 0, 0) + (gm_e1 Y (2, 1, 0) + 0) ≤ 182
              rw [gm_e_1, gm_e_o (by decide) (by decide) (by decide)]
              have := l2.2.2
              omega
            dsimp only at p2 p3
            omega
        rw [est] at hto
        have r16 := hR.1.1
        have e16 : mi_f h4 14016 = mi_f h3 14016 := me_f (c := 14016) r3 q4 rfl rfl
        refine ⟨zt.toNat, s, hto, ?_, by rw [e16, r16], gs_T_of (gx_T_fr hR.1 r3 q4 rfl) t2 t3⟩
        rw [me_f (c := 13952) t1 r1 rfl rfl]
        exact r2
    · intro b1 c4 h4 r1 r2 r3
      refine ⟨fun a => by omega, fun a1 a2 a3 => by omega, fun _ _ _ => Or.inl ⟨?_, r2⟩⟩
      rcases q6 with ⟨-, n, hn⟩ | ⟨zt, z0, z1, z2, hI, -⟩
      · refine ⟨n, ?_⟩
        have := gm_no_g hg h143 _ _ hn
        rw [hk] at this
        exact this
      · exfalso
        have := hI.1.2.2.2.1
        omega
  · intro b c1 c2 c3 h1 g1 g2 g3
    exact ⟨fun a => by omega, fun _ _ _ => g2, fun a1 a2 a3 => by omega⟩
  · intro c1 c2 h1 g1 g2 g3
    exact ⟨fun _ => g2, fun a1 a2 => by omega, fun a1 a2 => by omega⟩
end GRY
