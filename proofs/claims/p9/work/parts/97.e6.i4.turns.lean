/-! the reference's walk that prints: choose; the replay's turns as the traces have them; what the leaves print -/
section PRC
variable {h : sm_H} {d : Nat} {zf : Int} {o : ox}
theorem me_chooseo {U : Int} (hi : yo h o) (hf0 : 0 ≤ zf) (hf1 : zf < 80) (hf : wk_fa (mi_a h) zf) (hC : wk_C (mi_a h) U) (hfi : ∀ j : Nat, (j : Int) < mi_a h 130 zf.toNat → mi_a h 126 (wk_alt (mi_a h) j (mi_a h 129 zf.toNat)).toNat < 0 ∨ mi_a h 126 (wk_alt (mi_a h) j (mi_a h 129 zf.toNat)).toNat < U) (hlen : ∀ j : Nat, (j : Int) < mi_a h 130 zf.toNat → ((wk_it (mi_a h) 61 (mi_a h 126 (wk_alt (mi_a h) j (mi_a h 129 zf.toNat)).toNat)).length : Int) + mi_f h 14029 + 1 ≤ 2999) (hv : 1 < mi_a h 130 zf.toNat → 0 ≤ yv h (mi_f h 14033) ∧ yv h (mi_f h 14033) < mi_a h 130 zf.toNat ∧ mi_f h 14033 < 100) : me_E (d + 6) 223 0 [some (.inr (.inr 109)), some (.inl zf), none, none, none, none] [] h (yQ h (some o)) := by
  obtain ⟨hS, hm, hR, i0, i1, t0, u0, u1, n0, n1⟩ := id hi
  have of : mi_in zf := ⟨by omega, by omega⟩
  have b130 := me_ab (k := 130) (i := zf.toNat) hS rfl (by decide) (by clear hlen hfi; omega)
  refine mt_chA hS of ?_ ?_ ?_ ?_ ?_
  · intro c1
    have h1c : (1 : Int) ≤ mi_a h 130 zf.toNat := hf.1
    have h0l : ((0 : Nat) : Int) < mi_a h 130 zf.toNat := by clear hlen hfi; omega
    have hl0 := hlen 0 h0l
    have ha0 := hf.2.2 0 h0l
    have hf0' := hfi 0 h0l
    refine ⟨by clear hlen hfi; omega, fun h1 g1 g2 => ?_⟩
    have e1 := me_nil g2
    subst e1
    refine (ch146 (U := U) g1 of ⟨by decide, by decide⟩ (fun v hv => by cases hv) hC ha0.1 ha0.2 hf0' t0 (by
      clear hlen hfi
      omega)).imp (fun w h' hq => ?_)
    obtain ⟨p1, p2, p3, p4, p5⟩ := hq
    subst p1
    exact yQ_fr hR i0 p2 p3 g1 rfl
  · intro b1 b2 c1 c2 c3 c4
    exact absurd hm c3
  · intro b1 b2 c1 c2 c3 c4
    exact absurd hm c3
  · intro b1 b2 c1 c2 c3
    obtain ⟨v0, v1, n2⟩ := hv c1
    refine ⟨by clear hlen hfi; omega, fun h1 g1 g2 => ?_⟩
    have e1 := me_nil g2
    subst e1
    have v0 : 0 ≤ (mx_b h1 162 (mi_f h1 14033).toNat).toInt := v0
    have v1 : (mx_b h1 162 (mi_f h1 14033).toNat).toInt < mi_a h1 130 zf.toNat := v1
    rw [lg_i32 v0 (by clear hlen hfi; omega)]
    obtain ⟨j, hj⟩ : ∃ j : Nat, (mx_b h1 162 (mi_f h1 14033).toNat).toInt = (j : Int) := ⟨_, (Int.toNat_of_nonneg v0).symm⟩
    rw [hj] at v0 v1 ⊢
    have oz : mi_in (j : Int) := ⟨by clear hlen hfi; omega, by clear hlen hfi; omega⟩
    refine mt_chD g1 of ⟨by decide, by decide⟩ (mi_inT _) oz ?_ (by intros; exfalso; clear hlen hfi; omega)
    intro c h2' r1 r2
    have e2 := me_nil r2
    subst e2
    refine mt_chD2 r1 of oz (mi_inT _) ?_
    intro h3 s1' s2
    have e3 := me_nil s2
    subst e3
    refine ⟨_, me_comeso (d := d + 5) s1' hm ⟨by decide, by decide⟩ n0 (by clear hlen hfi; omega), ?_⟩
    intro w h4 hw hq
    obtain ⟨⟨z, rfl⟩, q1, q2, q3⟩ := hq
    have n29 : mi_f h4 14029 = mi_f h3 14029 := me_f (c := 14029) q2 s1' rfl rfl
    have n36 : mi_f h4 14036 = mi_f h3 14036 := me_f (c := 14036) q2 s1' rfl rfl
    have R4 : oR h4 (some o) := oR_fr hR q2 s1' rfl
    have hlj := hlen j v1
    refine mt_chE q1 of oz (mi_inT _) (hw _ rfl) ?_
    intro b1
    refine ⟨by clear hlen hfi; omega, fun h5 t1 t2 t3 a5 a6 a7 t4 => ?_⟩
    have R5 : oR h5 (some o) := oR_fr R4 t4 q1 rfl
    have e36 : mi_f h5 14036 = mi_f h3 14036 := (me_f (c := 14036) t4 q1 rfl rfl).trans n36
    have F5 : ab_Fr wr_W1 h3 h5 := (q2.wide (fun c hc => ab_swr_ok (by decide) hc)).trans (t4.wide (fun c hc => ab_swr_ok (by decide) hc))
    have hg : wk_gc (mi_a h3) (mi_a h5) := wk_gc_fr F5 s1' rfl
    have hC5 : wk_C (mi_a h5) U := by
      refine ⟨hC.1, fun u u0 u1 => ?_⟩
      rw [hg 124 (by decide), hg 125 (by decide), hg 124 (by decide)]
      exact hC.2 u u0 u1
    have hf5 : wk_fa (mi_a h5) zf := by
      unfold wk_fa
      rw [hg 130 (by decide), hg 129 (by decide), wk_alt_g hg]
      refine ⟨hf.1, hf.2.1, fun j hj => ?_⟩
      rw [wk_alt_g hg]
      exact hf.2.2 j hj
    have ea : wk_alt (mi_a h5) j (mi_a h5 129 zf.toNat) = wk_alt (mi_a h3) j (mi_a h3 129 zf.toNat) := by rw [wk_alt_g hg, hg 129 (by decide)]
    have haj := hf.2.2 j v1
    have hfj := hfi j v1
    generalize hA : wk_alt (mi_a h3) j (mi_a h3 129 zf.toNat) = A at ea haj hfj hlj
    have key := ch127 (d := d) (Q := yQ h3 (some o)) t1 of hf0 hf1 hf5 (j := j) (by rw [hg 130 (by decide)]; exact v1) (fun zj ozj => by
      rw [ea]
      refine (ch146 (U := U) t1 of oz (fun v hv => by cases hv; exact ozj) hC5 haj.1 haj.2 (by rw [hg 126 (by decide)]; exact hfj) (by clear hlen hfi; omega) (by rw [wk_it_g hg, hg 126 (by decide)]; clear hlen hfi; omega)).imp (fun w h' hq => ?_)
      obtain ⟨p1, p2, p3, p4, p5⟩ := hq
      subst p1
      have := yQ_fr R5 (by clear hlen hfi; omega) p2 p3 t1 rfl
      exact ⟨this.1, this.2.1, this.2.2.1, this.2.2.2.1, by have := this.2.2.2.2; clear hlen hfi; omega⟩) (j + 1) 0 (by clear hlen hfi; omega) (Nat.zero_le _)
    rw [hg 129 (by decide)] at key
    exact key
  · intro b1 c1 c2
    exfalso; clear hlen hfi; omega
end PRC
section PFD
variable {g : wk_g} {V : Int → Int} {K V' : Nat → Int} {r r1 r2 : List wk_E} {s s1 : gm_S} {c c2 : Nat}
theorem dm_sg_pf {u : Int} (hc : gm_len s = (c : Int)) (h : dm_sg 0 g V u r s = some (r1, s1)) (h2 : wk_sg g K u r c = some (r2, c2)) : r1 = r2 ∧ gm_len s1 = (c2 : Int) := by
  unfold dm_sg at h
  unfold wk_sg wk_sS at h2
  by_cases c9 : g 119 u.toNat = 9
  · rw [if_pos c9] at h h2
    rw [if_pos c9] at h2
    split at h2
    · injection h2 with h2
      injection h2 with h3 h4
      unfold pm_en at h
      split at h
      · cases h
      · obtain ⟨t, k1, k2⟩ := Option.map_eq_some_iff.mp h
        injection k2 with k3 k4
        subst k3
        subst k4
        obtain ⟨A, -, -, a3, -⟩ := pv_c (by decide) k1
        have ld : gm_len (gm_d t) = gm_len t := gm_d_e.1
        exact ⟨h3, by omega⟩
    · cases h2
  · rw [if_neg c9] at h h2
    by_cases c10 : g 119 u.toNat = 10
    · rw [if_pos c10] at h
      rw [if_neg (by omega), if_neg (by omega), if_neg c9, if_pos c10] at h2
      injection h with h
      injection h with k3 k4
      injection h2 with h2
      injection h2 with h3 h4
      subst k4
      exact ⟨k3.symm.trans h3, by omega⟩
    · rw [if_neg c10] at h
      obtain ⟨t, k1, k2⟩ := Option.map_eq_some_iff.mp h
      injection k2 with k3 k4
      subst k3
      subst k4
      unfold dm_lf at k1
      by_cases c1 : g 119 u.toNat = 1
      · rw [if_pos c1] at k1 h2
        split at h2
        · injection h2 with h2
          injection h2 with h3 h4
          obtain ⟨A, -, -, a3, -⟩ := pv_c (by decide) k1
          exact ⟨h3, by omega⟩
        · cases h2
      · rw [if_neg c1] at k1 h2
        by_cases c22 : g 119 u.toNat = 2
        · rw [if_pos c22] at k1 h2
          split at h2
          · injection h2 with h2
            injection h2 with h3 h4
            obtain ⟨A, -, -, a3, -⟩ := pv_c (by decide) k1
            exact ⟨h3, by omega⟩
          · cases h2
        · rw [if_neg c22] at k1 h2
          rw [if_neg c9, if_neg c10] at h2
          injection k1 with k1
          subst k1
          injection h2 with h2
          injection h2 with h3 h4
          exact ⟨h3, by omega⟩
theorem dm_pf {e : wk_E} (hc : gm_len s = (c : Int)) (hV : V' c = V (gm_len s)) (h : dm_st g V 0 e r s = some (r1, s1)) (h2 : wk_pf g K V' (e :: r, c) = some (r2, c2)) : r1 = r2 ∧ gm_len s1 = (c2 : Int) := by
  unfold dm_st at h
  unfold wk_pf at h2
  dsimp only at h2
  by_cases c0 : e.1 = 0
  · rw [if_pos c0] at h h2
    have lo : gm_len (gm_op e.2.2 s) = gm_len s := gm_op_e.2
    generalize gm_op e.2.2 s = so at h lo
    rw [hV, ← lo] at h2
    have hc : gm_len so = (c : Int) := by omega
    unfold dm_u at h
    by_cases c1 : g 122 e.2.1.toNat = 1
    · rw [if_pos c1] at h h2
      split at h2
      · injection h2 with h2
        injection h2 with h3 h4
        obtain ⟨t, k1, k2⟩ := Option.map_eq_some_iff.mp h
        injection k2 with k3 k4
        subst k3
        subst k4
        obtain ⟨A, -, -, a3, -⟩ := pv_c (by decide) k1
        have ld : gm_len (gm_d t) = gm_len t := gm_d_e.1
        exact ⟨h3, by omega⟩
      · cases h2
    · rw [if_neg c1] at h h2
      by_cases c22 : g 122 e.2.1.toNat = 2
      · rw [if_pos c22] at h h2
        split at h2
        · obtain ⟨t, k1, k2⟩ := Option.bind_eq_some_iff.mp h
          obtain ⟨A, -, -, a3, -⟩ := pv_c (by decide) k1
          have ld : gm_len (gm_d t) = gm_len t := gm_d_e.1
          by_cases cv : 0 < V (gm_len so)
          · rw [if_pos cv] at k2 h2
            exact dm_sg_pf (c := c + 1) (by omega) k2 h2
          · rw [if_neg cv] at k2 h2
            injection k2 with k2
            injection k2 with k3 k4
            injection h2 with h2
            injection h2 with h3 h4
            subst k4
            exact ⟨k3.symm.trans h3, by omega⟩
        · cases h2
      · rw [if_neg c22] at h h2
        exact dm_sg_pf hc h h2
  · rw [if_neg c0] at h h2
    by_cases c1 : e.1 = 1
    · rw [if_pos c1] at h h2
      unfold dm_fo at h
      by_cases cf : 1 < g 130 e.2.1.toNat
      · rw [if_pos cf] at h h2
        rw [hV] at h2
        split at h2
        · injection h2 with h2
          injection h2 with h3 h4
          split at h
          · obtain ⟨t, k1, k2⟩ := Option.map_eq_some_iff.mp h
            injection k2 with k3 k4
            subst k3
            subst k4
            obtain ⟨A, -, -, a3, -⟩ := pv_c (by decide) k1
            have ld : gm_len (gm_d t) = gm_len t := gm_d_e.1
            exact ⟨h3, by omega⟩
          · cases h
        · cases h2
      · rw [if_neg cf] at h h2
        injection h with h
        injection h with k3 k4
        injection h2 with h2
        injection h2 with h3 h4
        subst k4
        exact ⟨k3.symm.trans h3, by omega⟩
    · rw [if_neg c1] at h h2
      by_cases c5 : e.1 = 5
      · rw [if_pos c5] at h h2
        unfold dm_ag at h
        by_cases ca : 0 < e.2.2
        · rw [if_pos ca] at h h2
          exact dm_sg_pf hc h h2
        · rw [if_neg ca] at h h2
          injection h with h
          injection h with k3 k4
          injection h2 with h2
          injection h2 with h3 h4
          subst k4
          exact ⟨k3.symm.trans h3, by omega⟩
      · rw [if_neg c5] at h h2
        injection h2 with h2
        injection h2 with h3 h4
        by_cases c22 : e.1 = 2
        · rw [if_pos c22] at h
          injection h with h
          injection h with k3 k4
          subst k4
          exact ⟨k3.symm.trans h3, by unfold gm_len; rw [gm_T_mk]; unfold gm_len at hc; omega⟩
        · rw [if_neg c22] at h
          by_cases c3 : e.1 = 3
          · rw [if_pos c3] at h
            injection h with h
            injection h with k3 k4
            subst k4
            exact ⟨k3.symm.trans h3, by unfold gm_len; rw [gm_mid_T]; unfold gm_len at hc; omega⟩
          · rw [if_neg c3] at h
            injection h with h
            injection h with k3 k4
            subst k4
            refine ⟨k3.symm.trans h3, ?_⟩
            unfold gm_tu
            cases hP : gm_P s with
            | nil =>
              dsimp only
              omega
            | cons p q =>
              unfold gm_len at hc ⊢
              dsimp only
              rw [gm_T_mk, gm_rot_len]
              omega
end PFD
/-- the leaves, one behind the other -/
def ofd (Lr : Nat → Int) (g : wk_g) : List (Int × Int) → Option ox → Option ox
  | [], x => x
  | p :: L, x => ofd Lr g L (x.bind (oev Lr (g 119 p.1.toNat) (g 120 p.1.toNat) p.2))
section OFD
variable {Lr : Nat → Int} {g : wk_g}
theorem ofd_app : ∀ (L M : List (Int × Int)) (x : Option ox), ofd Lr g (L ++ M) x = ofd Lr g M (ofd Lr g L x) := by
  intro L
  induction L with
  | nil => intro M x; rfl
  | cons p L ih => intro M x; exact ih M _
theorem ofd_none : ∀ (L : List (Int × Int)), ofd Lr g L none = none := by
  intro L
  induction L with
  | nil => rfl
  | cons p L ih => exact ih
end OFD
