/-! lowest, choose of the reference, exactly -/
section GX9
theorem gm_lo_s (g : wk_g) (m : Nat) (a n b hi : Int) : gm_lo g (m + 1) a n b hi = gm_lo g m (g 128 a.toNat) (n + 1) (if g 143 a.toNat < hi then n else b) (if g 143 a.toNat < hi then g 143 a.toNat else hi) := by rw [gm_lo]
theorem gm_lo_0 (g : wk_g) (a n b hi : Int) : gm_lo g 0 a n b hi = b := by rw [gm_lo]
theorem gm_lo_b2 (g : wk_g) {B : Int} : ∀ (m : Nat) (a n b hi : Int), 0 ≤ n → n + m ≤ B → 0 ≤ b → b < B → 0 ≤ gm_lo g m a n b hi ∧ gm_lo g m a n b hi < B := by
  intro m
  induction m with
  | zero => intro a n b hi h0 h1 h2 h3; rw [gm_lo_0]; exact ⟨h2, h3⟩
  | succ m ih =>
    intro a n b hi h0 h1 h2 h3
    rw [gm_lo_s]
    refine ih _ _ _ _ (by omega) (by omega) ?_ ?_
    · split <;> omega
    · split <;> omega
variable {d : Nat} {h : sm_H} {zf : Int} {s : gm_S}
theorem me_loBx (hS : ab_Sh sx_sk h) (hf0 : 0 ≤ zf) (hf1 : zf < 80) (hf : wk_fa (mi_a h) zf) : ∀ (N : Nat) (j : Nat) (zb zh : Int), (mi_a h 130 zf.toNat) - j = N → mi_in zb → mi_in zh → me_E d 225 17 [some (.inr (.inr 109)), some (.inl zf), some (.inl (j : Int)), some (.inl zb), some (.inl zh), some (.inl (wk_alt (mi_a h) j (mi_a h 129 zf.toNat)))] [] h (fun w h' => h' = h ∧ w = some (.inl (gm_lo (mi_a h) N (wk_alt (mi_a h) j (mi_a h 129 zf.toNat)) (j : Int) zb zh))) := by
  have of : mi_in zf := ⟨by omega, by omega⟩
  have b130 := me_ab (k := 130) (i := zf.toNat) hS rfl (by decide) (by omega)
  intro N
  induction N with
  | zero =>
    intro j zb zh h1 ob oh
    have hc := wk_fa_at hf (j := j) (by omega)
    generalize ha : wk_alt (mi_a h) j (mi_a h 129 zf.toNat) = a at hc ⊢
    have oj : mi_in (j : Int) := ⟨by omega, by omega⟩
    have oa : mi_in a := by
      rw [← ha]
      cases j with
      | zero => exact mi_inT _
      | succ j => rw [wk_alt_succ]; exact mi_inT _
    refine mt_loB hS of oj ob oh oa ?_ ?_ ?_
    · intro c h3' r1 r2
      exact ⟨me_nil r2, by rw [gm_lo_0]⟩
    · intro c1 c2
      omega
    · intro c1 c2
      omega
  | succ N ih =>
    intro j zb zh h1 ob oh
    have hc := wk_fa_at hf (j := j) (by omega)
    have es := wk_alt_succ (mi_a h) j (mi_a h 129 zf.toNat)
    generalize ha : wk_alt (mi_a h) j (mi_a h 129 zf.toNat) = a at hc es ⊢
    have oj : mi_in (j : Int) := ⟨by omega, by omega⟩
    have oa : mi_in a := by
      rw [← ha]
      cases j with
      | zero => exact mi_inT _
      | succ j => rw [wk_alt_succ]; exact mi_inT _
    rw [gm_lo_s]
    refine mt_loB hS of oj ob oh oa ?_ ?_ ?_
    · intro c h3' r1 r2
      omega
    · intro c1 c2
      refine ⟨by omega, fun h3' r1 r2 => ?_⟩
      have e3 := me_nil r2
      subst e3
      have := ih (j + 1) zb zh (by omega) ob oh
      rw [es] at this
      rw [if_neg (by omega), if_neg (by omega)]
      exact this
    · intro c1 c2
      refine ⟨by omega, fun h3' r1 r2 => ?_⟩
      have e3 := me_nil r2
      subst e3
      have := ih (j + 1) (j : Int) (mi_a h3' 143 a.toNat) (by omega) oj (mi_inT _)
      rw [es] at this
      rw [if_pos c2, if_pos c2]
      exact this
theorem me_lowestx (hS : ab_Sh sx_sk h) (hf0 : 0 ≤ zf) (hf1 : zf < 80) (hf : wk_fa (mi_a h) zf) : me_E d 225 0 [some (.inr (.inr 109)), some (.inl zf), none, none, none, none] [] h (fun w h' => h' = h ∧ w = some (.inl (gm_lo (mi_a h) (mi_a h 130 zf.toNat).toNat (mi_a h 129 zf.toNat) 0 0 1001))) := by
  refine mt_loA hS ⟨by omega, by omega⟩ ?_
  refine ⟨by omega, fun h3 r1 r2 => ?_⟩
  have e3 := me_nil r2
  subst e3
  have := hf.1
  exact me_loBx hS hf0 hf1 hf _ 0 0 1001 (by omega) ⟨by decide, by decide⟩ ⟨by decide, by decide⟩
/-- a form -/
def gm_fo (g : wk_g) (f : Int) (r : List wk_E) (s : gm_S) : Option gm_C :=
  if 1 < g 130 f.toNat then (gm_c 4 (gm_w g f s) (gm_y s)).map (fun t => (wk_it g 61 (g 126 (wk_alt g (gm_w g f s).toNat (g 129 f.toNat)).toNat) ++ (2, 0, 0) :: r, gm_d t))
  else some (wk_it g 61 (g 126 (g 129 f.toNat).toNat) ++ r, s)
theorem gm_w_0 {g : wk_g} {f : Int} (hf : gm_F s < 0) : gm_w g f s = gm_lo g (g 130 f.toNat).toNat (g 129 f.toNat) 0 0 1001 := by
  unfold gm_w
  rw [if_pos hf]
theorem gm_w_1 {g : wk_g} {f z : Int} {y : Int64} (hf : ¬ gm_F s < 0) (hy : gm_x (gm_X s) = y) (hz : gm_v y (g 130 f.toNat) = z) : gm_w g f s = z := by
  unfold gm_w
  rw [if_neg hf, hy, hz]
theorem wk_ul_it2 {g : wk_g} {N : Nat} {u : Int} {r : List wk_E} : wk_ul (wk_it g N u ++ (2, 0, 0) :: r) = wk_ul r := by
  rw [wk_ul_it, wk_ul_o, Int.zero_add]
theorem me_choosex {U : Int} (hi : gx_in h s) (hf0 : 0 ≤ zf) (hf1 : zf < 80) (hf : wk_fa (mi_a h) zf) (hC : wk_C (mi_a h) U) (hfi : ∀ j : Nat, (j : Int) < mi_a h 130 zf.toNat → mi_a h 126 (wk_alt (mi_a h) j (mi_a h 129 zf.toNat)).toNat < 0 ∨ mi_a h 126 (wk_alt (mi_a h) j (mi_a h 129 zf.toNat)).toNat < U) (hlen : ∀ j : Nat, (j : Int) < mi_a h 130 zf.toNat → ((wk_it (mi_a h) 61 (mi_a h 126 (wk_alt (mi_a h) j (mi_a h 129 zf.toNat)).toNat)).length : Int) + mi_f h 14029 + 1 ≤ 2999) : me_E (d + 6) 223 0 [some (.inr (.inr 109)), some (.inl zf), none, none, none, none] [] h (gx_Q h (gm_fo (mi_a h) zf (wk_stk h) s)) := by
  obtain ⟨i1, i2, i3, i4, i5, i6, i7, i8, i9, i10, i11⟩ := hi
  have of : mi_in zf := ⟨by omega, by omega⟩
  have b130 := me_ab (k := 130) (i := zf.toNat) i1 rfl (by decide) (by omega)
  have e35 : mi_f h 14035 = gm_F s := i8.2.2.1
  obtain ⟨y, hy⟩ : ∃ y, gm_x (gm_X s) = y := ⟨_, rfl⟩
  -- behind the choice
  have go80 : ∀ (zz : Int) (h1 : sm_H) (s1 : gm_S), mi_in zz → 0 ≤ zz → zz < mi_a h 130 zf.toNat → ab_Sh sx_sk h1 → ab_Fr [(14047, 14048)] h h1 → gx_R h1 s1 → gm_D s1 = gm_D s → me_E (d + 6) 223 80 [some (.inr (.inr 109)), some (.inl zf), some (.inl (0 : Int)), some (.inl (mi_a h 129 zf.toNat)), none, none] [.inl zz] h1 (gx_Q h ((gm_c 4 zz s1).map (fun t => (wk_it (mi_a h) 61 (mi_a h 126 (wk_alt (mi_a h) zz.toNat (mi_a h 129 zf.toNat)).toNat) ++ (2, 0, 0) :: wk_stk h, gm_d t)))) := by
    intro zz h1 s1 oz hz0 hz1 g1 g2 hR1 eD
    refine mt_chD g1 of ⟨by decide, by decide⟩ (mi_inT _) oz ?_ ?_
    · intro c h2' r1 r2
      have e2 := me_nil r2
      subst e2
      refine mt_chD2 g1 of oz (mi_inT _) ?_
      intro h3 s1' s2
      have e3 := me_nil s2
      subst e3
      have ez : ((Int32.ofInt zz).toInt64).toInt = zz := by rw [Int32.toInt_toInt64, mi_ti oz]
      refine ⟨_, me_comesx (d := d + 5) g1 ((me_f (c := 14028) g2 i1 rfl rfl).trans i2) ⟨by decide, by decide⟩ hR1, ?_⟩
      intro w h4 hw hq
      obtain ⟨q1, q2, ⟨z, rfl⟩, q3⟩ := hq
      rw [ez] at q3
      have n29 : mi_f h4 14029 = mi_f h 14029 := (me_f (c := 14029) q2 g1 rfl rfl).trans (me_f (c := 14029) g2 i1 rfl rfl)
      have n32 : mi_f h4 14032 = mi_f h 14032 := (me_f (c := 14032) q2 g1 rfl rfl).trans (me_f (c := 14032) g2 i1 rfl rfl)
      have nst : wk_stk h4 = wk_stk h := (wk_stk_fr q2 g1 rfl).trans (wk_stk_fr g2 i1 rfl)
      have nF : ab_Fr wr_W1 h h4 := (g2.wide (fun c hc => ab_swr_ok (by decide) hc)).trans (q2.wide (fun c hc => ab_swr_ok (by decide) hc))
      obtain ⟨j, rfl⟩ : ∃ j : Nat, zz = (j : Int) := ⟨zz.toNat, by omega⟩
      have hlj := hlen j hz1
      rw [Int.toNat_natCast]
      refine mt_chE q1 of oz (mi_inT _) (hw _ rfl) ?_
      intro b1
      refine ⟨by clear hlen hfi; omega, fun h5 t1 t2 t3 a5 a6 a7 t4 => ?_⟩
      have est := wk_push1 (by omega) t2 a5 a6 a7
      rw [nst] at est
      have F5 : ab_Fr wr_W1 h h5 := nF.trans (t4.wide (fun c hc => ab_swr_ok (by decide) hc))
      have hg : wk_gc (mi_a h) (mi_a h5) := wk_gc_fr F5 i1 rfl
      have hC5 : wk_C (mi_a h5) U := by
        refine ⟨hC.1, fun u u0 u1 => ?_⟩
        rw [hg 124 (by decide), hg 125 (by decide), hg 124 (by decide)]
        exact hC.2 u u0 u1
      have hf5 : wk_fa (mi_a h5) zf := by
        unfold wk_fa
        rw [hg 130 (by decide), hg 129 (by decide), wk_alt_g hg]
        refine ⟨hf.1, hf.2.1, fun j hj => ?_⟩
        rw [wk_alt_g hg]
        exact hf.2.2 j hj
      have ea : wk_alt (mi_a h5) j (mi_a h5 129 zf.toNat) = wk_alt (mi_a h) j (mi_a h 129 zf.toNat) := by rw [wk_alt_g hg, hg 129 (by decide)]
      have haj := hf.2.2 j hz1
      have hfj := hfi j hz1
      generalize hA : wk_alt (mi_a h) j (mi_a h 129 zf.toNat) = A at ea haj hfj hlj
      have key := ch127 (d := d) (Q := gx_Q h ((gm_c 4 (j : Int) s1).map (fun t => (wk_it (mi_a h) 61 (mi_a h 126 A.toNat) ++ (2, 0, 0) :: wk_stk h, gm_d t)))) t1 of hf0 hf1 hf5 (j := j) (by rw [hg 130 (by decide)]; exact hz1) (fun zj ozj => by
        rw [ea]
        refine (ch146 (U := U) t1 of oz (fun v hv => by cases hv; exact ozj) hC5 haj.1 haj.2 (by rw [hg 126 (by decide)]; exact hfj) (by clear hlen hfi; omega) (by rw [wk_it_g hg, hg 126 (by decide)]; clear hlen hfi; omega)).imp (fun w h' hq => ?_)
        obtain ⟨p1, p2, p3, p4, p5⟩ := hq
        have F6 : ab_Fr wr_W1 h h' := F5.trans (p3.wide (fun c hc => ab_swr_ok (by decide) hc))
        have e44 : mi_f h' 14044 = mi_f h4 14044 := (me_f (c := 14044) p3 t1 rfl rfl).trans (me_f (c := 14044) t4 q1 rfl rfl)
        refine ⟨p1, p2, F6, (((me_f (c := 14034) p3 t1 rfl rfl).trans (me_f (c := 14034) t4 q1 rfl rfl)).trans (me_f (c := 14034) q2 g1 rfl rfl)).trans (me_f (c := 14034) g2 i1 rfl rfl), (((me_f (c := 14033) p3 t1 rfl rfl).trans (me_f (c := 14033) t4 q1 rfl rfl)).trans (me_f (c := 14033) q2 g1 rfl rfl)).trans (me_f (c := 14033) g2 i1 rfl rfl), ?_⟩
        rcases q3 with ⟨e1, e2⟩ | ⟨e1, t, e2, e3⟩
        · exact Or.inl ⟨by rw [e1]; rfl, e44.trans e2⟩
        · have eT := (gm_c_t e2).2.2.2.1
          refine Or.inr ⟨e44.trans e1, (wk_it (mi_a h) 61 (mi_a h 126 A.toNat) ++ (2, 0, 0) :: wk_stk h, gm_d t), by rw [e2]; rfl, ?_, gx_R_fr (gx_R_d e3 t4 q1 rfl rfl rfl (by clear hlen hfi; omega) (by clear hlen hfi; omega) t3) p3 t1 rfl rfl rfl rfl, ?_⟩
          · rw [p5, wk_it_g hg, hg 126 (by decide), est]
          · rw [me_f (c := 14032) p3 t1 rfl rfl, me_f (c := 14032) t4 q1 rfl rfl, n32, i5]
            exact wk_ul_it2.symm) (j + 1) 0 (by clear hlen hfi; omega) (Nat.zero_le _)
      rw [hg 129 (by decide)] at key
      exact key
    · intro b c
      exfalso; clear hlen hfi; omega
  have Fnil : ∀ {h1 : sm_H}, ab_Fr [] h h1 → ab_Fr [(14047, 14048)] h h1 := fun g => g.wide (fun c hc => by cases hc)
  refine mt_chA i1 of ?_ ?_ ?_ ?_ ?_
  · intro c1
    have h1c : (1 : Int) ≤ mi_a h 130 zf.toNat := hf.1
    have h0l : ((0 : Nat) : Int) < mi_a h 130 zf.toNat := by clear hlen hfi; omega
    have hl0 := hlen 0 h0l
    have ha0 := hf.2.2 0 h0l
    have hf0' := hfi 0 h0l
    refine ⟨by clear hlen hfi; omega, fun h1 g1 g2 => ?_⟩
    have e1 := me_nil g2
    subst e1
    unfold gm_fo
    rw [if_neg (by clear hlen hfi; omega)]
    refine (ch146 (U := U) g1 of ⟨by decide, by decide⟩ (fun v hv => by cases hv) hC ha0.1 ha0.2 hf0' i4 (by
      clear hlen hfi
      omega)).imp (fun w h' hq => ?_)
    obtain ⟨p1, p2, p3, p4, p5⟩ := hq
    exact ⟨p1, p2, p3.wide (fun c hc => ab_swr_ok (by decide) hc), me_f (c := 14034) p3 g1 rfl rfl, me_f (c := 14033) p3 g1 rfl rfl, Or.inr ⟨(me_f (c := 14044) p3 g1 rfl rfl).trans i3, _, rfl, p5, gx_R_fr i8 p3 g1 rfl rfl rfl rfl, by rw [me_f (c := 14032) p3 g1 rfl rfl, i5]; exact wk_ul_it.symm⟩⟩
  · intro b1 b2 c1 c2 c3 c4
    have nf : ¬ gm_F s < 0 := by clear hlen hfi; omega
    obtain ⟨z, hz⟩ : ∃ z, gm_v y (mi_a h 130 zf.toNat) = z := ⟨_, rfl⟩
    have hzb := gm_vbt y (mi_a h 130 zf.toNat) (by clear hlen hfi; omega) (by clear hlen hfi; omega)
    rw [hz] at hzb
    refine ⟨by clear hlen hfi; omega, fun h1 g1 g2 => ?_⟩
    have e1 := me_nil g2
    subst e1
    refine ⟨_, me_drawx (d := d + 5) g1 (by clear hlen hfi; omega) (by clear hlen hfi; omega), ?_⟩
    intro w h3 hw hq
    obtain ⟨q1, q2, q3, q4⟩ := hq
    have R2 := gx_R_x i8 q2 g1 q3
    have ex : mx_l h1 14047 = gm_X s := i8.2.1
    rw [ex, hy, hz] at q4
    rw [hy] at R2
    subst q4
    unfold gm_fo
    rw [if_pos c1, gm_w_1 nf hy hz, gm_y_1 nf hy]
    exact go80 z h3 _ (hw _ rfl) hzb.1 hzb.2 q1 q2 R2 (gm_D_mk _ _ _ _ _)
  · intro b1 b2 c1 c2 c3 c4
    have nf : gm_F s < 0 := by clear hlen hfi; omega
    have hl := gm_lo_b2 (mi_a h) (B := mi_a h 130 zf.toNat) (mi_a h 130 zf.toNat).toNat (mi_a h 129 zf.toNat) 0 0 1001 (by decide) (by clear hlen hfi; omega) (by decide) (by clear hlen hfi; omega)
    refine ⟨by clear hlen hfi; omega, fun h1 g1 g2 => ?_⟩
    have e1 := me_nil g2
    subst e1
    refine ⟨_, me_lowestx (d := d + 5) g1 hf0 hf1 hf, ?_⟩
    intro w h3 hw hq
    obtain ⟨rfl, q4⟩ := hq
    subst q4
    unfold gm_fo
    rw [if_pos c1, gm_w_0 nf, gm_y_0 nf]
    generalize gm_lo (mi_a h3) (mi_a h3 130 zf.toNat).toNat (mi_a h3 129 zf.toNat) 0 0 1001 = z at hl hw ⊢
    refine mt_chC g1 of ⟨by decide, by decide⟩ (mi_inT _) (hw _ rfl) ?_
    intro h4 g3 g4
    exact go80 z h4 s (hw _ rfl) hl.1 hl.2 g3 (Fnil g4) (gx_R_fr0 i8 g4 g1 rfl) rfl
  · intro b1 b2 c1 c2 c3
    exfalso; clear hlen hfi; omega
  · intro b1 c1 c2
    exfalso; clear hlen hfi; omega
end GX9
