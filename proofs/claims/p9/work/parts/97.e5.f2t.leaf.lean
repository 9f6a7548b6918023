/-! the class's growing walk: a leaf -/
section CW2t
variable {h : sm_H} {s : gm_S} {d : Nat} {f : Int → Int} {it : Int → Prop} {g : wk_g} {Y : wk_Y} {kw : Int → Bool}
/-- what the walk over a part, a unit, a form, a use does: M: from where the pure one goes, by what lies below -/
def gm_RO (g : wk_g) (kw : Int → Bool) (m : Option gm_C) (c : gm_C) : Prop := ∃ c1 n, m = some c1 ∧ gm_to g kw n c1 c
def gm_NO (g : wk_g) (kw : Int → Bool) (m : Option gm_C) : Prop := m = none ∨ ∃ c1 n, m = some c1 ∧ gm_no g kw n c1
def gq_Q (g : wk_g) (kw : Int → Bool) (h0 : sm_H) (u : Int) (M : List wk_E → Option gm_C) (s : gm_S) (w : Option mi_V) (h' : sm_H) : Prop := w = none ∧ ab_Sh sx_sk h' ∧ ab_Fr gq_W h0 h' ∧ mi_f h' 13701 = u ∧ ((mi_f h' 13699 = 1 ∧ mi_f h' 13700 = 1 ∧ ∀ r, wk_ul r = u → gm_NO g kw (M r)) ∨ (mi_f h' 13699 = 0 ∧ mi_f h' 13700 = 0 ∧ ∃ s', gq_R h' s' ∧ (gm_D s' = gm_D s ∧ pq_A h0 s (gm_D s) h' s') ∧ ∀ r, wk_ul r = u → gm_RO g kw (M r) (r, s')))
/-- where it is called -/
def gq_in (h : sm_H) (u : Int) (s : gm_S) : Prop := ab_Sh sx_sk h ∧ mi_f h 13699 = 0 ∧ mi_f h 13700 = 0 ∧ mi_f h 13701 = u ∧ gq_R h s
theorem gm_c_A {k v : Int} {x : Int64} {s t : gm_S} (h : gm_c k v (x, gm_F s, gm_T s, gm_D s, gm_P s) = some t) : gm_D t = gm_D s ∧ gm_P t = gm_P s ∧ ∃ A, gm_T t = gm_T s ++ A := by
  obtain ⟨-, -, a, b, c⟩ := gm_c_t h
  exact ⟨b.trans (gm_D_mk _ _ _ _ _), c.trans (gm_P_mk _ _ _ _ _), _, a.trans (congrArg (fun q => q ++ _) (gm_T_mk _ _ _ _ _))⟩
theorem gm_lf_A {o : Int} {t : gm_S} (h : gm_lf kw o s = some t) : gm_D t = gm_D s ∧ gm_P t = gm_P s ∧ ∃ A, gm_T t = gm_T s ++ A := by
  by_cases o1 : o = 1
  · obtain ⟨y, hy⟩ : ∃ y, gm_x (gm_X s) = y := ⟨_, rfl⟩
    obtain ⟨z, hz⟩ : ∃ z, gm_v y 10000 = z := ⟨_, rfl⟩
    rw [gm_lf_1 o1 hy hz] at h
    exact gm_c_A h
  · by_cases o2 : o = 2
    · obtain ⟨y, hy⟩ : ∃ y, gm_x (gm_X s) = y := ⟨_, rfl⟩
      obtain ⟨z, hz⟩ : ∃ z, gm_v y 3 = z := ⟨_, rfl⟩
      rw [gm_lf_2 o2 hy hz] at h
      exact gm_c_A h
    · rw [gm_lf_o o1 o2] at h
      injection h with h
      subst h
      exact ⟨rfl, rfl, [], (List.append_nil _).symm⟩
theorem me_gleaf {zp u : Int} (hi : gq_in h u s) (hG : cg_G f it g Y kw h) (p0 : 0 ≤ zp) (p1 : zp < wk_u Y) (n9 : g 119 zp.toNat ≠ 9) (n10 : g 119 zp.toNat ≠ 10) : me_E (d + 3) 133 0 [some (.inr (.inr 107)), some (.inl zp), none] [] h (gq_Q g kw h u (fun r => gm_sg g kw zp r s) s) := by
  obtain ⟨hS, i1, i2, i3, hR⟩ := hi
  have hu60 := hG.1.1
  have hU := hG.2.2.1 zp p0 p1
  have e68 := hU.1
  have op : mi_in zp := ⟨by omega, by omega⟩
  have o68 : mi_in (mi_a h 68 zp.toNat) := mi_inT _
  have eM : (fun r => gm_sg g kw zp r s) = fun r => (gm_lf kw (g 119 zp.toNat) s).map (fun t => (r, t)) := funext fun r => gm_sg_lf n9 n10
  rw [eM]
  -- behind the node
  have fin : ∀ (kd v : Int) (s1 : gm_S) (h2 h3 h4 : sm_H) (w : Option mi_V), gm_lf kw (g 119 zp.toNat) s = gm_c kd v s1 → gm_D s1 = gm_D s → gm_P s1 = gm_P s → gm_T s1 = gm_T s → ab_Sh sx_sk h2 → ab_Fr [(13702, 13703)] h h2 → ab_Sh sx_sk h3 → ab_Fr gq_en h2 h3 → ((gm_c kd v s1 = none ∧ w = some (.inl (-1)) ∧ mi_f h3 13699 = 1 ∧ mi_f h3 13700 = 1) ∨ (∃ t, gm_c kd v s1 = some t ∧ w = some (.inl (gm_len s1)) ∧ mi_f h3 13699 = 0 ∧ mi_f h3 13700 = 0 ∧ gq_R h3 t ∧ ∀ i, mi_a h3 105 i = if i = (gm_T s1).length then 0 else mi_a h2 105 i)) → ab_Fr [] h3 h4 → gq_Q g kw h u (fun r => (gm_lf kw (g 119 zp.toNat) s).map (fun t => (r, t))) s none h4 := by
    intro kd v s1 h2 h3 h4 w e1 e2 e3 e4 g1 g2 q1 q2 q3 r2
    have e := me_nil r2
    subst e
    refine ⟨rfl, q1, (g2.wide (fun c hc => ab_swr_ok (by decide) hc)).trans (q2.wide (fun c hc => ab_swr_ok (by decide) hc)), ((me_f (c := 13701) q2 g1 rfl rfl).trans (me_f (c := 13701) g2 hS rfl rfl)).trans i3, ?_⟩
    rcases q3 with ⟨q3, -, q4, q5⟩ | ⟨t, q3, -, q4, q5, q6, q7⟩
    · refine Or.inl ⟨q4, q5, fun r _ => Or.inl ?_⟩
      rw [e1, q3]
      rfl
    · obtain ⟨-, -, t1, t2, t3⟩ := gm_c_t q3
      refine Or.inr ⟨q4, q5, t, q6, ⟨t2.trans e2, t3.trans e3, [(kd + 10 * ((gm_T s).length : Int), v, gm_D s)], by rw [t1, e4, e2], fo_one, ?_, fun k hk => ?_⟩, fun r _ => ⟨(r, t), 0, ?_, rfl⟩⟩
      · refine gz_cons fo_nil gz_nil ?_
        rw [q7, e4, if_pos rfl]
        rfl
      · rw [q7, e4, if_neg (by omega), me_a (k := 105) g2 hS rfl rfl]
      · rw [e1, q3]
        rfl
  refine mt_kgfA hS op (by intros; exfalso; omega) (by intros; exfalso; omega) ?_ ?_ ?_
  · intro c1 c2 c3 c4
    rw [e68] at c3 c4
    refine ⟨⟨by omega, by omega⟩, fun h1 g1 g2 => ?_⟩
    have e := me_nil g2
    subst e
    rw [gm_lf_o c3 c4]
    exact ⟨rfl, hS, ab_Fr.refl, i3, Or.inr ⟨i1, i2, s, hR, ⟨rfl, pq_A_refl⟩, fun r _ => ⟨(r, s), 0, rfl, rfl⟩⟩⟩
  · intro c1 c2 c3 c4
    refine ⟨⟨by omega, by omega⟩, fun h1 g1 g2 => ?_⟩
    have e := me_nil g2
    subst e
    refine ⟨_, me_gname (d := d) hS hG hR, ?_⟩
    intro w h2 hw hq
    obtain ⟨q1, q2, q3, rfl⟩ := hq
    have hl : gm_lf kw (g 119 zp.toNat) s = gm_c 3 (gm_nm kw (gm_X s)).1 ((gm_nm kw (gm_X s)).2, gm_F s, gm_T s, gm_D s, gm_P s) := by
      unfold gm_lf
      rw [if_neg (by rw [← e68]; exact c3), if_pos (by rw [← e68]; exact c4)]
    generalize hv : (gm_nm kw (gm_X s)).1 = v at hw hl ⊢
    generalize (gm_nm kw (gm_X s)).2 = y at q3 hl
    refine mt_kgfD q1 op o68 (hw _ rfl) ⟨by decide, by decide⟩ ?_
    intro h3 r1 r2
    have e := me_nil r2
    subst e
    refine ⟨_, me_genter (d := d) q1 ⟨by decide, by decide⟩ (hw _ rfl) ((me_f (c := 13699) q2 hS rfl rfl).trans i1) ((me_f (c := 13700) q2 hS rfl rfl).trans i2) q3, ?_⟩
    intro w3 h3' hw3 hq3
    obtain ⟨t1, t2, t3⟩ := hq3
    have hz : ∃ z, w3 = some (.inl z) := by
      rcases t3 with ⟨-, t3, -⟩ | ⟨-, -, t3, -⟩
      · exact ⟨_, t3⟩
      · exact ⟨_, t3⟩
    obtain ⟨z, rfl⟩ := hz
    refine mt_kgfE t1 op o68 (hw3 _ rfl) ?_
    intro h4 u1 u2
    exact fin 3 v _ _ h3' h4 _ hl (gm_D_mk _ _ _ _ _) (gm_P_mk _ _ _ _ _) (gm_T_mk _ _ _ _ _) q1 q2 t1 t2 t3 u2
  · intro c1 c2 c3
    refine ⟨⟨by omega, by omega⟩, fun h1 g1 g2 => ?_⟩
    have e := me_nil g2
    subst e
    obtain ⟨y, hy⟩ : ∃ y, gm_x (gm_X s) = y := ⟨_, rfl⟩
    obtain ⟨z, hz⟩ : ∃ z, gm_v y 10000 = z := ⟨_, rfl⟩
    have hl := gm_lf_1 (kw := kw) (e68.symm.trans c3) hy hz
    refine ⟨_, me_gdrawx (d := d + 1) hS hR (by decide) (by decide) hy hz, ?_⟩
    intro w h2 hw hq
    obtain ⟨q1, q2, q3, rfl⟩ := hq
    refine mt_kgfB q1 op o68 (hw _ rfl) ⟨by decide, by decide⟩ ?_
    intro h3 r1 r2
    have e := me_nil r2
    subst e
    refine ⟨_, me_genter (d := d) q1 ⟨by decide, by decide⟩ (hw _ rfl) ((me_f (c := 13699) q2 hS rfl rfl).trans i1) ((me_f (c := 13700) q2 hS rfl rfl).trans i2) q3, ?_⟩
    intro w3 h3' hw3 hq3
    obtain ⟨t1, t2, t3⟩ := hq3
    have hz : ∃ z, w3 = some (.inl z) := by
      rcases t3 with ⟨-, t3, -⟩ | ⟨-, -, t3, -⟩
      · exact ⟨_, t3⟩
      · exact ⟨_, t3⟩
    obtain ⟨z2, rfl⟩ := hz
    refine mt_kgfC t1 op o68 (hw3 _ rfl) ?_
    intro h4 u1 u2
    exact fin 2 z _ _ h3' h4 _ hl (gm_D_mk _ _ _ _ _) (gm_P_mk _ _ _ _ _) (gm_T_mk _ _ _ _ _) q1 q2 t1 t2 t3 u2
end CW2t
