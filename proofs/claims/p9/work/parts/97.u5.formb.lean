/-! the class's Sets: a form's begins, and its alternatives -/
theorem sX_v (v h h' : Nat → Int) (t t' : Nat → Int64) : ∀ us, sa_v (v, t, h) us = sa_v (v, t', h') us := by
  intro us
  induction us with
  | nil => rfl
  | cons p r ih =>
    rw [sa_v_c, sa_v_c, ih]
    rfl
theorem sX_h (v v' h : Nat → Int) (t t' : Nat → Int64) : ∀ us, sa_h (v, t, h) us = sa_h (v', t', h) us := by
  intro us
  induction us with
  | nil => rfl
  | cons p r ih =>
    rw [sa_h_c, sa_h_c, ih]
    rfl
theorem sX_fv (v h h' : Nat → Int) (t t' : Nat → Int64) : ∀ as, sf_v (v, t, h) as = sf_v (v, t', h') as := by
  intro as
  induction as with
  | nil => rfl
  | cons a r ih => rw [sf_v_c, sf_v_c, ih, sX_v v h h' t t']
theorem sX_fh (v v' h : Nat → Int) (t t' : Nat → Int64) : ∀ as, sf_h (v, t, h) as = sf_h (v', t', h) as := by
  intro as
  induction as with
  | nil => rfl
  | cons a r ih => rw [sf_h_c, sf_h_c, ih, sX_h v v' h t t']
theorem sb_f_app (X : sp_X) : ∀ (as bs : List (List sp_P)), sb_f X (as ++ bs) = sb_f X as ||| sb_f X bs := by
  intro as bs
  induction as with
  | nil => exact (or_0l _).symm
  | cons a r ih => rw [List.cons_append, sb_f_c, sb_f_c, ih, or_as]
/-- an alternative's own void and starts -/
def at_ok (hb : sm_H) (X : sp_X) (h : sm_H) (a : Nat) : Prop := mi_a h 84 a = sa_v X ((cv_l hb a).map (cv_p hb)) ∧ mx_b h 85 a = sa_s X ((cv_l hb a).map (cv_p hb)) ∧ mi_a h 87 a = min 1000 (sa_h X ((cv_l hb a).map (cv_p hb)))
def ro_Q (hb : sm_H) (zf : Int) (w : Option mi_V) (h' : sm_H) : Prop := w = none ∧ ab_Sh sx_sk h' ∧ ab_Fr rm_W hb h' ∧ cB h' = su (bG (GC hb)) zf.toNat (cB hb) ∧ (mi_f h' 9999 = 0 → mi_f hb 9999 = 0 ∧ cB h' = cB hb) ∧
  (∀ a ∈ cv_as hb (cv_n hb zf.toNat) (mi_a hb 63 zf.toNat), at_ok hb (cX hb) h' a.toNat) ∧ ∀ i : Nat, (∀ a ∈ cv_as hb (cv_n hb zf.toNat) (mi_a hb 63 zf.toNat), a.toNat ≠ i) → at_same hb h' i
section ROF
variable {d : Nat} {hb : sm_H} {U zf : Int}
/-- the loop is through: as is what was looked at -/
theorem ro_exit {as : List Int} {ze zb zh za zn : Int} {zs : Int64} {h : sm_H} (hSb : ab_Sh sx_sk hb) (f0 : 0 ≤ zf) (f1 : zf < 70) (hS : ab_Sh sx_sk h) (hF : ab_Fr ra_V hb h) (eas : as = cv_as hb (cv_n hb zf.toNat) (mi_a hb 63 zf.toNat)) (ev : ze = sf_v (cX hb) (as.map (fun a => (cv_l hb a).map (cv_p hb)))) (eb : b64 zb = sb_f (cB hb) (as.map (fun a => (cv_l hb a).map (cv_p hb)))) (eh : zh = sf_h (cX hb) (as.map (fun a => (cv_l hb a).map (cv_p hb)))) (p1 : ∀ a ∈ as, at_ok hb (cX hb) h a.toNat) (p2 : ∀ i : Nat, (∀ a ∈ as, a.toNat ≠ i) → at_same hb h i) (oe : mi_in ze) (ob : mi_in zb) (oh : mi_in zh) (oa : mi_in za) (on : mi_in zn) : me_E (d + 5) 68 131 [some (.inr (.inr 78)), some (.inl zf), some (.inl ze), some (.inr (.inl zs)), none, some (.inl zb), some (.inl zh), some (.inl za), some (.inl zn)] [] h (ro_Q hb zf) := by
  have of : mi_in zf := ⟨by omega, by omega⟩
  have eG : as.map (fun a => (cv_l hb a).map (cv_p hb)) = GC hb zf.toNat := by rw [eas]; rfl
  rw [eG] at ev eb eh
  obtain ⟨G1, G2, G3⟩ := bG_f (X := cB hb) (GC hb zf.toNat)
  have ev : ze = sf_v (cB hb) (bG (GC hb) zf.toNat) := ev.trans ((sX_fv _ _ _ _ _ _).trans G1.symm)
  have eh : zh = sf_h (cB hb) (bG (GC hb) zf.toNat) := eh.trans ((sX_fh _ _ _ _ _ _).trans G3.symm)
  have eb : b64 zb = sf_s (cB hb) (bG (GC hb) zf.toNat) := eb.trans G2.symm
  have e79 : mi_a h 79 zf.toNat = mi_a hb 79 zf.toNat := me_a (k := 79) hF hSb rfl rfl
  have e82 : mi_a h 82 zf.toNat = mi_a hb 82 zf.toNat := me_a (k := 82) hF hSb rfl rfl
  have e83 : mi_a h 83 zf.toNat = mi_a hb 83 zf.toNat := me_a (k := 83) hF hSb rfl rfl
  have e99 : mi_f h 9999 = mi_f hb 9999 := me_f (c := 9999) hF hSb rfl rfl
  have go : ∀ h1, ab_Sh sx_sk h1 → ab_Fr [(9999, 10000)] h h1 → (mi_f h1 9999 = 0 → mi_f h 9999 = 0 ∧ ze = mi_a h 79 zf.toNat ∧ zb = mi_a h 83 zf.toNat ∧ zh = mi_a h 82 zf.toNat) → me_E (d + 5) 68 198 [some (.inr (.inr 78)), some (.inl zf), some (.inl ze), some (.inr (.inl zs)), none, some (.inl zb), some (.inl zh), some (.inl za), some (.inl zn)] [] h1 (ro_Q hb zf) := by
    intro h1 s1 s2 s3
    refine mt_rmE s1 of oe ob oh oa on ?_ ?_ ?_
    · intro c1; exfalso; omega
    · intro c1 c2; exfalso; omega
    · intro c1 c2
      refine ⟨by omega, fun h2 t1 t2 t3 t4 t5 t6 => ?_⟩
      have F1 : ab_Fr rm_W hb h1 := (hF.wide (fun c hc => ab_swr_ok (by decide) hc)).trans (s2.wide (fun c hc => ab_swr_ok (by decide) hc))
      have F2 : ab_Fr rm_W hb h2 := F1.trans (t6.wide (fun c hc => ab_swr_ok (by decide) hc))
      have a79 : ∀ i, mi_a h1 79 i = mi_a hb 79 i := fun i => (me_a (k := 79) s2 hS rfl rfl).trans (me_a (k := 79) hF hSb rfl rfl)
      have a82 : ∀ i, mi_a h1 82 i = mi_a hb 82 i := fun i => (me_a (k := 82) s2 hS rfl rfl).trans (me_a (k := 82) hF hSb rfl rfl)
      have a83 : ∀ i, mi_a h1 83 i = mi_a hb 83 i := fun i => (me_a (k := 83) s2 hS rfl rfl).trans (me_a (k := 83) hF hSb rfl rfl)
      have a84 : ∀ i, mi_a h2 84 i = mi_a h 84 i := fun i => (me_a (k := 84) t6 s1 rfl rfl).trans (me_a (k := 84) s2 hS rfl rfl)
      have a85 : ∀ i, mx_b h2 85 i = mx_b h 85 i := fun i => (me_b (k := 85) t6 s1 rfl rfl).trans (me_b (k := 85) s2 hS rfl rfl)
      have a87 : ∀ i, mi_a h2 87 i = mi_a h 87 i := fun i => (me_a (k := 87) t6 s1 rfl rfl).trans (me_a (k := 87) s2 hS rfl rfl)
      have eX : cB h2 = su (bG (GC hb)) zf.toNat (cB hb) := by
        unfold su
        refine Prod.ext (funext fun i => ?_) (Prod.ext (funext fun i => ?_) (funext fun i => ?_))
        · show mi_a h2 79 i = if i = zf.toNat then _ else mi_a hb 79 i
          rw [t2, a79, ev]
        · show b64 (mi_a h2 83 i) = if i = zf.toNat then _ else b64 (mi_a hb 83 i)
          rw [t4, a83]
          by_cases ci : i = zf.toNat
          · rw [if_pos ci, if_pos ci, eb]
          · rw [if_neg ci, if_neg ci]
        · show mi_a h2 82 i = if i = zf.toNat then _ else mi_a hb 82 i
          rw [t3, a82, eh]
      refine ⟨rfl, t1, F2, eX, fun q => ?_, fun a ha => ?_, fun i hi => ?_⟩
      · have q1 : mi_f h1 9999 = 0 := (me_f (c := 9999) t6 s1 rfl rfl).symm.trans q
        obtain ⟨x1, x2, x3, x4⟩ := s3 q1
        refine ⟨e99.symm.trans x1, ?_⟩
        rw [e79] at x2
        rw [e83] at x3
        rw [e82] at x4
        unfold cB
        refine Prod.ext (funext fun i => ?_) (Prod.ext (funext fun i => ?_) (funext fun i => ?_))
        · show mi_a h2 79 i = mi_a hb 79 i
          rw [t2, a79]
          by_cases ci : i = zf.toNat
          · rw [if_pos ci, ci]; exact x2
          · rw [if_neg ci]
        · show b64 (mi_a h2 83 i) = b64 (mi_a hb 83 i)
          rw [t4, a83]
          by_cases ci : i = zf.toNat
          · rw [if_pos ci, ci, x3]
          · rw [if_neg ci]
        · show mi_a h2 82 i = mi_a hb 82 i
          rw [t3, a82]
          by_cases ci : i = zf.toNat
          · rw [if_pos ci, ci]; exact x4
          · rw [if_neg ci]
      · rw [← eas] at ha
        obtain ⟨x1, x2, x3⟩ := p1 a ha
        exact ⟨(a84 _).trans x1, (a85 _).trans x2, (a87 _).trans x3⟩
      · rw [← eas] at hi
        obtain ⟨x1, x2, x3⟩ := p2 i hi
        exact ⟨(a84 _).trans x1, (a85 _).trans x2, (a87 _).trans x3⟩
  refine mt_rmD hS of oe ob oh oa on ?_ ?_ ?_ ?_ ?_ ?_ ?_ ?_ ?_ ?_ ?_ ?_ ?_ ?_ ?_ ?_
  · intro b k1 h1 s1 s2 s3
    exact go h1 s1 s3 (fun q => by omega)
  · intro b k1 k2; exfalso; omega
  · intro b k1 k2; exfalso; omega
  · intro b k1 k2; exfalso; omega
  · intro b k1 k2; exfalso; omega
  · intro b k1 k2; exfalso; omega
  · intro b k1 k2 k3; exfalso; omega
  · intro b k1 k2 k3; exfalso; omega
  · intro b k1 k2 k3; exfalso; omega
  · intro b k1 k2 k3; exfalso; omega
  · intro b k1 k2 k3; exfalso; omega
  · intro b k1 k2 k3 k4
    exact ⟨by omega, fun h1 s1 s2 s3 => go h1 s1 s3 (fun q => by omega)⟩
  · intro b k1 k2 k3 k4 k5
    exact ⟨by omega, fun h1 s1 s2 s3 => go h1 s1 s3 (fun q => by omega)⟩
  · intro b k1 k2 k3 k4 k5 k6
    exact ⟨by omega, fun h1 s1 s2 s3 => go h1 s1 s3 (fun q => by omega)⟩
  · intro b k1 k2 k3 k4 k5 k6 k7
    exact ⟨by omega, fun h1 s1 s2 s3 => go h1 s1 s3 (fun q => ⟨k1, k4, k6, k7⟩)⟩
  · intro b k1 k2 k3 k4 k5 k6 k7
    exact ⟨by omega, fun h1 s1 s2 s3 => go h1 s1 s3 (fun q => by omega)⟩
theorem ro_loop (hSb : ab_Sh sx_sk hb) (hU : cv_u hb U) (h01 : sp_01 70 (cX hb)) (hH : ∀ F : Nat, F < 70 → mi_a hb 82 F ≤ 1000) (f0 : 0 ≤ zf) (f1 : zf < 70) : ∀ (m : Nat) (as : List Int) (ze zb zh za zn : Int) (zs : Int64) (h : sm_H), (m : Int) + zn = cv_n hb zf.toNat → 0 ≤ zn → cv_al hb U m za → as ++ cv_as hb m za = cv_as hb (cv_n hb zf.toNat) (mi_a hb 63 zf.toNat) → mi_in zb → mi_in za → ze = sf_v (cX hb) (as.map (fun a => (cv_l hb a).map (cv_p hb))) → b64 zb = sb_f (cB hb) (as.map (fun a => (cv_l hb a).map (cv_p hb))) → zh = sf_h (cX hb) (as.map (fun a => (cv_l hb a).map (cv_p hb))) → 0 ≤ zh → (∀ a ∈ as, at_ok hb (cX hb) h a.toNat) → (∀ i : Nat, (∀ a ∈ as, a.toNat ≠ i) → at_same hb h i) → ab_Sh sx_sk h → ab_Fr ra_V hb h → me_E (d + 5) 68 28 [some (.inr (.inr 78)), some (.inl zf), some (.inl ze), some (.inr (.inl zs)), none, some (.inl zb), some (.inl zh), some (.inl za), some (.inl zn)] [] h (ro_Q hb zf) := by
  have of : mi_in zf := ⟨by omega, by omega⟩
  intro m
  induction m with
  | zero =>
    intro as ze zb zh za zn zs h hN n0 hal eas ob oa ev eb eh h0 p1 p2 hS hF
    have e01 := sf_v_01 (cX hb) (as.map (fun a => (cv_l hb a).map (cv_p hb)))
    rw [← ev] at e01
    have h1000 := sf_h_1000 (cX hb) (as.map (fun a => (cv_l hb a).map (cv_p hb)))
    rw [← eh] at h1000
    have oe : mi_in ze := ⟨by omega, by omega⟩
    have oh : mi_in zh := ⟨by omega, by omega⟩
    have cn : cv_n hb zf.toNat ≤ 6 := by unfold cv_n; omega
    have on : mi_in zn := ⟨by omega, by omega⟩
    have e64 : mi_a h 64 zf.toNat = mi_a hb 64 zf.toNat := me_a (k := 64) hF hSb rfl rfl
    have eas : as = cv_as hb (cv_n hb zf.toNat) (mi_a hb 63 zf.toNat) := by rw [← eas]; exact (List.append_nil as).symm
    refine mt_rmB hS of oe ob oh oa on ?_ ?_ ?_ ?_ ?_ ?_ ?_ ?_ ?_
    · intro c1; exfalso; omega
    · intro c1; exfalso; omega
    · intro c1; exfalso; omega
    · intro c1 c2; exfalso; omega
    · intro c1 c2; exfalso; omega
    · intro c1 c2; exfalso; omega
    · intro c1 c2 c3
      refine ⟨by omega, fun h1 g1 g2 => ?_⟩
      have e0 := me_nil g2
      subst e0
      exact ro_exit hSb f0 f1 hS hF eas ev eb eh p1 p2 oe ob oh oa on
    · intro c1 c2 c3 c4
      refine ⟨by omega, fun h1 g1 g2 => ?_⟩
      have e0 := me_nil g2
      subst e0
      exact ro_exit hSb f0 f1 hS hF eas ev eb eh p1 p2 oe ob oh oa on
    · intro c1 c2 c3 c4
      exfalso
      rw [e64] at c3
      unfold cv_n at hN
      omega
  | succ m ih =>
    intro as ze zb zh za zn zs h hN n0 hal eas ob oa ev eb eh h0 p1 p2 hS hF
    obtain ⟨⟨a0, a1⟩, hp, hal'⟩ := hal
    have e01 := sf_v_01 (cX hb) (as.map (fun a => (cv_l hb a).map (cv_p hb)))
    rw [← ev] at e01
    have h1000 := sf_h_1000 (cX hb) (as.map (fun a => (cv_l hb a).map (cv_p hb)))
    rw [← eh] at h1000
    have oe : mi_in ze := ⟨by omega, by omega⟩
    have oh : mi_in zh := ⟨by omega, by omega⟩
    have cn : cv_n hb zf.toNat ≤ 6 := by unfold cv_n; omega
    have on : mi_in zn := ⟨by omega, by omega⟩
    have e64 : mi_a h 64 zf.toNat = mi_a hb 64 zf.toNat := me_a (k := 64) hF hSb rfl rfl
    have lt : zn < mi_a hb 64 zf.toNat := by unfold cv_n at hN; omega
    have eas' : (as ++ [za]) ++ cv_as hb m (mi_a hb 66 za.toNat) = cv_as hb (cv_n hb zf.toNat) (mi_a hb 63 zf.toNat) := by
      rw [← eas, List.append_assoc]
      all_goals rfl
    refine mt_rmB hS of oe ob oh oa on ?_ ?_ ?_ ?_ ?_ ?_ ?_ ?_ ?_
    · intro c1; exfalso; omega
    · intro c1; exfalso; omega
    · intro c1; exfalso; omega
    · intro c1 c2; exfalso; omega
    · intro c1 c2; exfalso; omega
    · intro c1 c2; exfalso; omega
    · intro c1 c2 c3
      exfalso
      rw [e64] at c3
      omega
    · intro c1 c2 c3 c4; exfalso; omega
    · intro c1 c2 c3 c4
      refine ⟨by omega, fun h1 g1 g2 => ?_⟩
      have e0 := me_nil g2
      subst e0
      refine ⟨_, (me_refreshAlternative (d := d) hSb hU h01 hH a0 a1 hp hS hF).and (me_refreshAltB (d := d) hSb hU h01 hH a0 a1 hp hS hF), fun w h2 oww hq => ?_⟩
      obtain ⟨⟨rfl, s1, s2, s3, s4, s5, -, -⟩, -, -, -, v1, v2⟩ := hq
      rw [if_pos (by decide)] at s3 s4 v1
      have el : cv_row hb 60 (mi_a hb 65 za.toNat) = cv_l hb za := rfl
      rw [el] at s3 s4 s5 v1
      rw [b64_0, or_0l] at v1
      have ezn : ((za.toNat : Nat) : Int) = za := Int.toNat_of_nonneg a0
      have z0 : (0 : Int64) ||| sa_s (cX hb) ((cv_l hb za).map (cv_p hb)) = sa_s (cX hb) ((cv_l hb za).map (cv_p hb)) := tb_ext (fun b => by rw [tb_or, tb_0, Bool.false_or])
      rw [z0] at s4
      have sh0 := sa_h_0 (cX hb) ((cv_l hb za).map (cv_p hb))
      have s5 : mi_a h2 87 za.toNat = min 1000 (sa_h (cX hb) ((cv_l hb za).map (cv_p hb))) := by omega
      have a01 := sa_v_01 (cX hb) ((cv_l hb za).map (cv_p hb))
      obtain ⟨A1, A2, A3⟩ := sf_app (cX hb) (as.map (fun a => (cv_l hb a).map (cv_p hb))) [(cv_l hb za).map (cv_p hb)]
      have em : (as ++ [za]).map (fun a => (cv_l hb a).map (cv_p hb)) = as.map (fun a => (cv_l hb a).map (cv_p hb)) ++ [(cv_l hb za).map (cv_p hb)] := by rw [List.map_append]; rfl
      have e66 : mi_a h2 66 za.toNat = mi_a hb 66 za.toNat := me_a (k := 66) s2 hSb rfl rfl
      have nx : ∀ zm, zm = min zh (mi_a h2 87 za.toNat) → me_E (d + 5) 68 28 [some (.inr (.inr 78)), some (.inl zf), some (.inl ((Int32.ofInt ze ||| Int32.ofInt (mi_a h2 84 (Int.toNat za))).toInt)), some (.inr (.inl (zs ||| mx_b h2 85 (Int.toNat za)))), none, some (.inl ((Int32.ofInt zb ||| Int32.ofInt (mi_a h2 86 (Int.toNat za))).toInt)), some (.inl zm), some (.inl (mi_a h2 66 (Int.toNat za))), some (.inl (zn + 1))] [] h2 (ro_Q hb zf) := by
        intro zm ezm
        rw [e66]
        refine ih (as ++ [za]) _ _ zm _ (zn + 1) _ h2 (by omega) (by omega) hal' eas' (mi_inT _) (mi_inT _) ?_ ?_ ?_ (by omega) (fun u hu => ?_) (fun u hu => ?_) s1 s2
        · rw [em, A1, s3, or_01 e01 a01, ← ev]
          by_cases c : ze ≠ 0
          · rw [if_pos c, if_pos (Or.inl c)]
          · rw [if_neg c]
            rw [sf_v_c, sf_v_n]
            by_cases c2 : sa_v (cX hb) ((cv_l hb za).map (cv_p hb)) ≠ 0
            · rw [if_pos c2, if_pos (Or.inr c2)]
            · rw [if_neg c2, if_neg (fun q => q.elim c c2)]
        · rw [em, sb_f_app, b64_or, v1, eb]
          congr 1
          exact (or_0r _).symm
        · rw [em, A3, ← eh, ezm, s5]
          rw [sf_h_c, sf_h_n]
          omega
        · by_cases cm : u.toNat = za.toNat
          · rw [cm]
            unfold at_ok
            rw [ezn]
            exact ⟨s3, s4, s5⟩
          · rcases List.mem_append.mp hu with hu | hu
            · obtain ⟨x1, x2, x3⟩ := v2 u.toNat cm
              obtain ⟨y1, y2, y3⟩ := p1 u hu
              exact ⟨x1.trans y1, x2.trans y2, x3.trans y3⟩
            · rw [List.mem_singleton.mp hu] at cm
              exact absurd rfl cm
        · obtain ⟨x1, x2, x3⟩ := v2 u (fun q => hu za (List.mem_append.mpr (Or.inr (List.mem_singleton.mpr rfl))) q.symm)
          obtain ⟨y1, y2, y3⟩ := p2 u (fun a ha => hu a (List.mem_append.mpr (Or.inl ha)))
          exact ⟨x1.trans y1, x2.trans y2, x3.trans y3⟩
      refine mt_rmC s1 of oe ob oh oa on ?_ ?_ ?_ ?_ ?_ ?_
      · intro k1; exfalso; omega
      · intro k1; exfalso; omega
      · intro k1 k2; exfalso; omega
      · intro k1 k2; exfalso; omega
      · intro k1 k2 k3
        refine ⟨by omega, fun h3 g1 g2 => ?_⟩
        have e0 := me_nil g2
        subst e0
        exact nx _ (by omega)
      · intro k1 k2 k3
        refine ⟨by omega, fun h3 g1 g2 => ?_⟩
        have e0 := me_nil g2
        subst e0
        exact nx _ (by omega)
theorem me_refreshFormB (hSb : ab_Sh sx_sk hb) (hU : cv_u hb U) (h01 : sp_01 70 (cX hb)) (hH : ∀ F : Nat, F < 70 → mi_a hb 82 F ≤ 1000) (f0 : 0 ≤ zf) (f1 : zf < 70) (hal : cv_al hb U (cv_n hb zf.toNat) (mi_a hb 63 zf.toNat)) : me_E (d + 5) 68 0 [some (.inr (.inr 78)), some (.inl zf), none, none, none, none, none, none, none] [] hb (ro_Q hb zf) := by
  refine mt_rmA hSb ⟨by omega, by omega⟩ ?_ ?_ ?_
  · intro c1; exfalso; omega
  · intro c1 c2; exfalso; omega
  · intro c1 c2
    refine ⟨by omega, fun h1 g1 g2 => ?_⟩
    have e0 := me_nil g2
    subst e0
    exact ro_loop hSb hU h01 hH f0 f1 _ [] 0 0 1000 _ 0 _ h1 (by omega) (by decide) hal rfl fm_in0 (mi_inT _) rfl rfl rfl (by decide) (fun a ha => by cases ha) (fun u _ => ⟨rfl, rfl, rfl⟩) hSb ab_Fr.refl
end ROF
