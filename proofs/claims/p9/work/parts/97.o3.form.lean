/-! the reference's formOf, exactly -/
def rv_as (g : wk_g) : Nat → Int → List (List sp_P)
  | 0, _ => []
  | m + 1, a => rv_l g a :: rv_as g m (g 128 a.toNat)
def GR (g : wk_g) : sg_G := fun F => rv_as g (g 130 F).toNat (g 129 F)
def fo_W : List (Nat × Nat) := [(13999, 14000), (17024, 17025), (17408, 17409), (18048, 18049), (18432, 18433)]
def fo_X (X : sp_X) (h : sm_H) (zf : Int) (w : Option mi_V) (h' : sm_H) : Prop := w = none ∧ ab_Sh sx_sk h' ∧ ab_Fr fo_W h h' ∧ (∀ i, mi_a h' 133 i = if i = zf.toNat then sf_v X (GR (mi_a h) zf.toNat) else mi_a h 133 i) ∧ (∀ i, mx_b h' 136 i = if i = zf.toNat then sf_s X (GR (mi_a h) zf.toNat) else mx_b h 136 i) ∧ (∀ i, mi_a h' 144 i = if i = zf.toNat then sf_h X (GR (mi_a h) zf.toNat) else mi_a h 144 i) ∧ (mi_f h' 13999 = 0 → mi_f h 13999 = 0 ∧ sf_v X (GR (mi_a h) zf.toNat) = mi_a h 133 zf.toNat ∧ sf_s X (GR (mi_a h) zf.toNat) = mx_b h 136 zf.toNat ∧ sf_h X (GR (mi_a h) zf.toNat) = mi_a h 144 zf.toNat)
/-- the alternatives' void, starts, height are those of X -/
def ap_ok (X : sp_X) (h : sm_H) (a : Int) : Prop := mi_a h 132 a.toNat = sa_v X (rv_l (mi_a h) a) ∧ mx_b h 135 a.toNat = sa_s X (rv_l (mi_a h) a) ∧ mi_a h 143 a.toNat = min 1000 (sa_h X (rv_l (mi_a h) a))
section FOX
variable {d : Nat} {h : sm_H} {zf : Int} {X : sp_X}
theorem fox105 {ze zl zh za : Int} {zs : Int64} (f0 : 0 ≤ zf) (f1 : zf < 80) (hS : ab_Sh sx_sk h) (ev : ze = sf_v X (GR (mi_a h) zf.toNat)) (es : zs = sf_s X (GR (mi_a h) zf.toNat)) (eh : zh = sf_h X (GR (mi_a h) zf.toNat)) (ol : mi_in zl) (oh : mi_in zh) (oa : mi_in za) : me_E d 199 105 [some (.inr (.inr 109)), some (.inl zf), some (.inl ze), some (.inr (.inl zs)), none, some (.inl zl), some (.inl zh), some (.inl za)] [] h (fo_X X h zf) := by
  have of : mi_in zf := ⟨by omega, by omega⟩
  have e01 := sf_v_01 X (GR (mi_a h) zf.toNat)
  rw [← ev] at e01
  have oe : mi_in ze := ⟨by omega, by omega⟩
  have go : ∀ h1, ab_Sh sx_sk h1 → ab_Fr [(13999, 14000)] h h1 → (mi_f h1 13999 = 0 → mi_f h 13999 = 0 ∧ ze = mi_a h 133 zf.toNat ∧ zs = mx_b h 136 zf.toNat ∧ zh = mi_a h 144 zf.toNat) → me_E d 199 164 [some (.inr (.inr 109)), some (.inl zf), some (.inl ze), some (.inr (.inl zs)), none, some (.inl zl), some (.inl zh), some (.inl za)] [] h1 (fo_X X h zf) := by
    intro h1 s1 s2 s3
    refine mt_foD s1 of oe ol oh oa ⟨by omega, fun h2 t1 t2 t3 t4 t5 t6 => ?_⟩
    refine ⟨rfl, t1, (s2.wide (fun c hc => ab_swr_ok (by decide) hc)).trans (t6.wide (fun c hc => ab_swr_ok (by decide) hc)), fun i => ?_, fun i => ?_, fun i => ?_, fun q => ?_⟩
    · rw [t2 i, me_a (k := 133) s2 hS rfl rfl, ev]
    · rw [t5 i, me_b (k := 136) s2 hS rfl rfl, es]
    · rw [t4 i, me_a (k := 144) s2 hS rfl rfl, eh]
    · obtain ⟨x1, x2, x3, x4⟩ := s3 ((me_f (c := 13999) t6 s1 rfl rfl).symm.trans q)
      exact ⟨x1, ev.symm.trans x2, es.symm.trans x3, eh.symm.trans x4⟩
  refine mt_foC hS of oe ol oh oa ?_ ?_ ?_ ?_ ?_ ?_
  · intro b k1 h1 s1 s2 s3
    exact go h1 s1 s3 (fun q => by omega)
  · intro b k1 k2
    exact ⟨by omega, fun h1 s1 s2 s3 => go h1 s1 s3 (fun q => by omega)⟩
  · intro b k1 k2 k3
    exact ⟨by omega, fun h1 s1 s2 s3 => go h1 s1 s3 (fun q => by omega)⟩
  · intro b k1 k2 k3 k4
    exact ⟨by omega, fun h1 s1 s2 s3 => go h1 s1 s3 (fun q => by omega)⟩
  · intro b k1 k2 k3 k4 k5
    exact ⟨by omega, fun h1 s1 s2 s3 => go h1 s1 s3 (fun q => ⟨k1, k2, lg_eq.mp k3, k5⟩)⟩
  · intro b k1 k2 k3 k4 k5
    exact ⟨by omega, fun h1 s1 s2 s3 => go h1 s1 s3 (fun q => by omega)⟩
theorem sf_h0 (X : sp_X) : ∀ as, 0 ≤ sf_h X as := by
  intro as
  induction as with
  | nil => show (0 : Int) ≤ 1000; decide
  | cons a r ih => have := sa_h_0 X a; unfold sf_h; omega
theorem me_formOfx {Y : wk_Y} {A : Int} (hL : wk_L (mi_a h) Y) (f0 : 0 ≤ zf) (f1 : zf < wk_f Y) (hS : ab_Sh sx_sk h) (hA : ∀ j : Nat, (j : Int) < mi_a h 130 zf.toNat → wk_alt (mi_a h) j (mi_a h 129 zf.toNat) < A) (hp : ∀ a, 0 ≤ a → a < A → ap_ok X h a) : me_E d 199 0 [some (.inr (.inr 109)), some (.inl zf), none, none, none, none, none, none] [] h (fo_X X h zf) := by
  have h80 := hL.2.1
  have of : mi_in zf := ⟨by omega, by omega⟩
  obtain ⟨-, -, c1, c2, -, c3⟩ := hL.2.2.2 zf f0 f1
  have lp : ∀ (m j : Nat) (pre : List (List sp_P)) (ze zl zh za : Int) (zs : Int64), j + m = (mi_a h 130 zf.toNat).toNat → za = wk_alt (mi_a h) j (mi_a h 129 zf.toNat) → pre ++ rv_as (mi_a h) m za = GR (mi_a h) zf.toNat → ze = sf_v X pre → zs = sf_s X pre → zh = sf_h X pre → mi_in zl → mi_in za → me_E d 199 20 [some (.inr (.inr 109)), some (.inl zf), some (.inl ze), some (.inr (.inl zs)), none, some (.inl zl), some (.inl zh), some (.inl za)] [] h (fo_X X h zf) := by
    intro m
    induction m with
    | zero =>
      intro j pre ze zl zh za zs hj hza hpre ev es eh ol oa
      have e01 := sf_v_01 X pre
      have b1 := sf_h_1000 X pre
      have b0 := sf_h0 X pre
      have oe : mi_in ze := ⟨by omega, by omega⟩
      have oh : mi_in zh := ⟨by omega, by omega⟩
      have neg : za < 0 := by
        have ej : j = (mi_a h 130 zf.toNat).toNat := by omega
        rw [← ej, ← hza] at c2
        exact c2
      have epre : pre = GR (mi_a h) zf.toNat := by rw [← hpre]; exact (List.append_nil pre).symm
      rw [epre] at ev es eh
      refine mt_foB hS of oe ol oh oa ?_ ?_ ?_ ?_ ?_ ?_ ?_
      · intro c h1 g1 g2
        have e := me_nil g2
        subst e
        exact fox105 f0 (by omega) g1 ev es eh ol oh oa
      all_goals
        intro c0
        exfalso
        omega
    | succ m ih =>
      intro j pre ze zl zh za zs hj hza hpre ev es eh ol oa
      have e01 := sf_v_01 X pre
      rw [← ev] at e01
      have b1 := sf_h_1000 X pre
      have b0 := sf_h0 X pre
      have oe : mi_in ze := ⟨by omega, by omega⟩
      have oh : mi_in zh := ⟨by omega, by omega⟩
      have lt : (j : Int) < mi_a h 130 zf.toNat := by omega
      have bd := c3 j lt
      rw [← hza] at bd
      have ba := hA j lt
      rw [← hza] at ba
      obtain ⟨m1, m2, m3⟩ := hp za bd.1 ba
      have a01 := sa_v_01 X (rv_l (mi_a h) za)
      obtain ⟨A1, A2, A3⟩ := sf_app X pre [rv_l (mi_a h) za]
      have hpre' : (pre ++ [rv_l (mi_a h) za]) ++ rv_as (mi_a h) m (mi_a h 128 za.toNat) = GR (mi_a h) zf.toNat := by
        rw [← hpre, List.append_assoc]
        all_goals rfl
      have nx : ∀ (ze' zl' zh' : Int) (zs' : Int64), ze' = (if ze ≠ 0 then 1 else if mi_a h 132 za.toNat ≠ 0 then 1 else 0) → zs' = zs ||| mx_b h 135 za.toNat → zh' = min zh (mi_a h 143 za.toNat) → mi_in zl' → me_E d 199 20 [some (.inr (.inr 109)), some (.inl zf), some (.inl ze'), some (.inr (.inl zs')), none, some (.inl zl'), some (.inl zh'), some (.inl (mi_a h 128 (Int.toNat za)))] [] h (fo_X X h zf) := by
        intro ze' zl' zh' zs' q1 q2 q3 ol'
        refine ih (j + 1) _ ze' zl' zh' _ zs' (by omega) (by rw [wk_alt_succ, hza]) hpre' ?_ ?_ ?_ ol' (mi_inT _)
        · rw [A1, q1, m1, ← ev]
          rfl
        · rw [A2, q2, m2, ← es]
          congr 1
          exact (or_0r _).symm
        · rw [A3, q3, m3, ← eh]
          rw [sf_h_c, sf_h_n]
          omega
      refine mt_foB hS of oe ol oh oa ?_ ?_ ?_ ?_ ?_ ?_ ?_
      · intro c; exfalso; omega
      · intro w0 w1 w2
        refine ⟨by omega, fun h1 g1 g2 => ?_⟩
        have e := me_nil g2
        subst e
        exact nx _ _ _ _ (by rw [if_pos w1]) rfl (by omega) (mi_inT _)
      · intro w0 w1 w2
        refine ⟨by omega, fun h1 g1 g2 => ?_⟩
        have e := me_nil g2
        subst e
        exact nx _ _ _ _ (by rw [if_pos w1]) rfl (by omega) (mi_inT _)
      · intro w0 w1 w2 w3
        refine ⟨by omega, fun h1 g1 g2 => ?_⟩
        have e := me_nil g2
        subst e
        exact nx _ _ _ _ (by rw [if_neg (fun q => q w1), if_neg (fun q => q w2)]) rfl (by omega) (mi_inT _)
      · intro w0 w1 w2 w3
        refine ⟨by omega, fun h1 g1 g2 => ?_⟩
        have e := me_nil g2
        subst e
        exact nx _ _ _ _ (by rw [if_neg (fun q => q w1), if_neg (fun q => q w2)]) rfl (by omega) (mi_inT _)
      · intro w0 w1 w2 w3
        refine ⟨by omega, fun h1 g1 g2 => ?_⟩
        have e := me_nil g2
        subst e
        exact nx _ _ _ _ (by rw [if_neg (fun q => q w1), if_pos w2]) rfl (by omega) (mi_inT _)
      · intro w0 w1 w2 w3
        refine ⟨by omega, fun h1 g1 g2 => ?_⟩
        have e := me_nil g2
        subst e
        exact nx _ _ _ _ (by rw [if_neg (fun q => q w1), if_pos w2]) rfl (by omega) (mi_inT _)
  refine mt_foA hS of ⟨by omega, fun h1 g1 g2 => ?_⟩
  have e := me_nil g2
  subst e
  exact lp (mi_a h1 130 zf.toNat).toNat 0 [] 0 0 1000 _ _ (by omega) rfl rfl rfl rfl rfl fm_in0 (mi_inT _)
end FOX
