/-! the reference's tokenize, exactly -/
section TQN
variable {d : Nat} {h0 hh : sm_H} {a zk : Int} {Q : Option mi_V → sm_H → Prop}
theorem ty111 {zc zl zd ze : Int} {q6 q7 : Option mi_V} {h : sm_H} (hC : ty_C d h0 hh a zk Q) (hS0 : ab_Sh sx_sk h0) (hO : tq_O h0) (k0 : 0 ≤ zk) (hb : tx_end tx_blk (mi_f h0 13954) (mi_a h0 111) a zk) (t1 : mi_f hh 14011 ≤ zk) (e0 : zk < ze) (e1 : ze ≤ mi_f h0 13954) (hzc : zc = mi_a h0 111 zk.toNat) (c0 : 0 ≤ zc) (dl : zl ≠ 0 ↔ tx_low zc) (dd : zd ≠ 0 ↔ tx_dig zc) (hl : zl ≠ 0 → tx_end tx_low (mi_f h0 13954) (mi_a h0 111) zk ze) (hd : zd ≠ 0 → tx_end tx_dig (mi_f h0 13954) (mi_a h0 111) zk ze) (hn : zl = 0 → zd = 0 → ze = zk + 1) (oc : mi_in zc) (ol : mi_in zl) (od : mi_in zd) (o6 : ∀ v, q6 = some v → mi_ok v) (o7 : ∀ v, q7 = some v → mi_ok v) (hH : ty_H h0 hh h) : me_E (d + 1) 229 111 [some (.inr (.inr 109)), some (.inl zk), some (.inl zc), some (.inl zl), some (.inl zd), some (.inl ze), q6, q7] [] h Q := by
  have e2 := (me_fb (c := 13954) hS0 rfl).2
  have hS := hH.1
  have x3 := hH.2.2.1
  have ok : mi_in zk := ⟨by omega, by omega⟩
  have oe : mi_in ze := ⟨by omega, by omega⟩
  have on : mi_in (ze - zk) := ⟨by omega, by omega⟩
  have z64 : (Int64.ofNat 0).toInt = 0 := rfl
  refine mt_tk8 hS ok oc ol od oe o6 o7 ?_ ?_ ?_
  · intro b c1 c2
    have ez := hn c2 c1
    refine ⟨by omega, fun h1 g1 g2 g3 => ?_⟩
    obtain ⟨s1, s2⟩ := ty_step hH g1 g2 g3
    have f62 : mi_f h1 13962 = mi_f h0 13962 := me_f (c := 13962) s1.2.1 hS0 rfl rfl
    have fL : ∀ i, tq_L h1 i = tq_L h0 i := fun i => by
      unfold tq_L
      rw [me_b (k := 118) s1.2.1 hS0 rfl rfl, me_a (k := 117) s1.2.1 hS0 rfl rfl]
    have hO1 : tq_O h1 := fun k hk => by
      rw [me_b (k := 118) s1.2.1 hS0 rfl rfl, me_a (k := 117) s1.2.1 hS0 rfl rfl]
      exact hO k (by omega)
    refine ⟨_, me_sox g1 oc c0 hO1, fun w h2 ow hq => ?_⟩
    obtain ⟨rfl, z, z0, z1, hz, rfl⟩ := hq
    rw [f62, show tq_L h2 = tq_L h0 from funext fL] at hz
    have e11 : mi_f h 14011 = mi_f h2 14011 := x3.trans s1.2.2.1.symm
    have zb : -1 ≤ (if z = -1 then (-1 : Int) else 3 + z) ∧ (if z = -1 then (-1 : Int) else 3 + z) ≤ 22 := by
      by_cases q : z = -1
      · rw [if_pos q]; omega
      · rw [if_neg q]; omega
    have bt := me_fb (c := 14011) g1 rfl
    generalize hy : (if z = -1 then (-1 : Int) else 3 + z) = y at zb ⊢
    refine mt_tk12 g1 ok oc ol od oe on ⟨by omega, by omega⟩ ⟨by omega, by omega⟩ o7 ?_
    intro b2
    have s13 := s1.2.2.1
    refine ⟨by omega, fun h3 r1 r2 r3 r4 => ?_⟩
    rw [e11] at r3
    refine ty_fin hC s1 e0 e1 (me_oi oc) (me_oi ol) (me_oi od) (me_oi oe) (me_oi on) o7 r1 r2 r3 r4 (by rw [s2, z64]; omega) (by rw [s2, z64]; omega) ⟨hb, Or.inr ⟨by omega, Or.inr (Or.inr ⟨?_, ?_, ez, z, ?_, hy.symm⟩)⟩⟩
    · rw [← hzc]
      exact fun q => (dd.mpr q) c1
    · rw [← hzc]
      exact fun q => (dl.mpr q) c2
    · rw [← hzc]
      exact hz
  · intro b c1 c2
    refine ⟨by omega, fun h1 g1 g2 g3 => ?_⟩
    obtain ⟨s1, s2⟩ := ty_step hH g1 g2 g3
    refine ty222 hC hS0 hO k0 hb t1 e0 e1 (hl c2) oc ol od 200 (ze - 1) h1 (by omega) (by omega) (by omega) s1 (fun _ => by rw [s2, z64]) (fun _ => ?_)
    rw [s2, z64, show ze - 1 - (ze - 1) = 0 by omega]
    rfl
  · intro b c1
    refine ⟨by omega, fun h1 g1 g2 g3 => ?_⟩
    obtain ⟨s1, s2⟩ := ty_step hH g1 g2 g3
    refine ty135 hC hS0 k0 hb t1 e0 e1 (hd c1) oc ol od 200 zk h1 (by omega) (by omega) (by omega) s1 (fun _ => ⟨rfl, by rw [s2, z64]⟩) (fun _ => ?_)
    rw [s2, z64, show zk - zk = 0 by omega]
    rfl
theorem ty61 {zc zl zd : Int} {q6 q7 : Option mi_V} {h : sm_H} (hC : ty_C d h0 hh a zk Q) (hS0 : ab_Sh sx_sk h0) (hO : tq_O h0) (k0 : 0 ≤ zk) (hb : tx_end tx_blk (mi_f h0 13954) (mi_a h0 111) a zk) (t1 : mi_f hh 14011 ≤ zk) (hzc : zc = mi_a h0 111 zk.toNat) (c0 : 0 ≤ zc) (dl : zl ≠ 0 ↔ tx_low zc) (dd : zd ≠ 0 ↔ tx_dig zc) (oc : mi_in zc) (ol : mi_in zl) (od : mi_in zd) (o6 : ∀ v, q6 = some v → mi_ok v) (o7 : ∀ v, q7 = some v → mi_ok v) (hH : ty_H h0 hh h) : ∀ (N : Nat) (ze : Int), mi_f h0 13954 - ze < N → zk < ze → ze ≤ mi_f h0 13954 → (zl ≠ 0 → ∀ j, zk ≤ j → j < ze → j < mi_f h0 13954 ∧ tx_low (mi_a h0 111 j.toNat)) → (zd ≠ 0 → ∀ j, zk ≤ j → j < ze → j < mi_f h0 13954 ∧ tx_dig (mi_a h0 111 j.toNat)) → (zl = 0 → zd = 0 → ze = zk + 1) → me_E (d + 1) 229 61 [some (.inr (.inr 109)), some (.inl zk), some (.inl zc), some (.inl zl), some (.inl zd), some (.inl ze), q6, q7] [] h Q := by
  have e2 := (me_fb (c := 13954) hS0 rfl).2
  have hS := hH.1
  have e13 : mi_f h 13954 = mi_f h0 13954 := me_f (c := 13954) hH.2.1 hS0 rfl rfl
  have ex : zl ≠ 0 → zd ≠ 0 → False := fun q1 q2 => by
    have a1 := dl.mp q1
    have a2 := dd.mp q2
    unfold tx_low at a1
    unfold tx_dig at a2
    omega
  intro N
  induction N with
  | zero => intro ze hN _ _; exfalso; omega
  | succ N ih =>
    intro ze hN e0 e1 hl hd hn
    have ea : mi_a h 111 ze.toNat = mi_a h0 111 ze.toNat := me_a (k := 111) hH.2.1 hS0 rfl rfl
    have ok : mi_in zk := ⟨by omega, by omega⟩
    have oe : mi_in ze := ⟨by omega, by omega⟩
    have end_ : ¬ (ze < mi_f h0 13954 ∧ zl ≠ 0 ∧ tx_low (mi_a h0 111 ze.toNat)) → ¬ (ze < mi_f h0 13954 ∧ zd ≠ 0 ∧ tx_dig (mi_a h0 111 ze.toNat)) → me_E (d + 1) 229 111 [some (.inr (.inr 109)), some (.inl zk), some (.inl zc), some (.inl zl), some (.inl zd), some (.inl ze), q6, q7] [] h Q := fun n1 n2 => ty111 (d := d) (q6 := q6) (q7 := q7) hC hS0 hO k0 hb t1 e0 e1 hzc c0 dl dd (fun q => ⟨by omega, hl q, fun x => n1 ⟨x.1, q, x.2⟩⟩) (fun q => ⟨by omega, hd q, fun x => n2 ⟨x.1, q, x.2⟩⟩) hn oc ol od o6 o7 hH
    have more : (zl ≠ 0 → ze < mi_f h0 13954 ∧ tx_low (mi_a h0 111 ze.toNat)) → (zd ≠ 0 → ze < mi_f h0 13954 ∧ tx_dig (mi_a h0 111 ze.toNat)) → (zl ≠ 0 ∨ zd ≠ 0) → ze < mi_f h0 13954 → me_E (d + 1) 229 61 [some (.inr (.inr 109)), some (.inl zk), some (.inl zc), some (.inl zl), some (.inl zd), some (.inl (ze + 1)), q6, q7] [] h Q := fun n1 n2 n3 n4 => by
      refine ih (ze + 1) (by omega) (by omega) (by omega) (fun q j j0 j1 => ?_) (fun q j j0 j1 => ?_) (fun q1 q2 => by omega)
      · by_cases ej : j = ze
        · subst ej
          exact n1 q
        · exact hl q j j0 (by omega)
      · by_cases ej : j = ze
        · subst ej
          exact n2 q
        · exact hd q j j0 (by omega)
    have go102 : ∀ zz, ze < mi_f h0 13954 → zd ≠ 0 → (zz ≠ 0 ↔ tx_dig (mi_a h0 111 ze.toNat)) → mi_in zz → me_E (d + 1) 229 102 [some (.inr (.inr 109)), some (.inl zk), some (.inl zc), some (.inl zl), some (.inl zd), some (.inl ze), q6, q7] [.inl zz] h Q := fun zz hlt zd0 hz oz => by
      refine mt_tk7 hS ok oc ol od oe oz o6 o7 ?_ ?_
      · intro c h1 g1 g2
        have e3 := me_nil g2
        subst e3
        exact end_ (fun x => ex x.2.1 zd0) (fun x => (hz.mpr x.2.2) c)
      · intro c
        refine ⟨by omega, fun h1 g1 g2 => ?_⟩
        have e3 := me_nil g2
        subst e3
        exact more (fun q => absurd zd0 (fun q2 => ex q q2)) (fun _ => ⟨hlt, hz.mp c⟩) (Or.inr zd0) hlt
    refine mt_tk5 hS ok oc ol od oe o6 o7 ?_ ?_ ?_ ?_
    · intro b c1 h1 g1 g2
      have e3 := me_nil g2
      subst e3
      exact end_ (fun x => by have := x.1; omega) (fun x => by have := x.1; omega)
    · intro b c1 c2 c3 h1 g1 g2
      have e3 := me_nil g2
      subst e3
      exact end_ (fun x => x.2.1 c2) (fun x => x.2.1 c3)
    · intro b c1 c2 c3
      refine ⟨by omega, fun h1 g1 g2 => ?_⟩
      have e3 := me_nil g2
      subst e3
      refine ⟨_, me_dix g1 (mi_inT _), fun w h2 ow hq => ?_⟩
      obtain ⟨rfl, z, rfl, oz, hz⟩ := hq
      exact go102 z (by omega) c3 (by rw [← ea]; exact hz) oz
    · intro b c1 c2
      refine ⟨by omega, fun h1 g1 g2 => ?_⟩
      have e3 := me_nil g2
      subst e3
      refine ⟨_, me_lox g1 (mi_inT _), fun w h2 ow hq => ?_⟩
      obtain ⟨rfl, z, rfl, oz, hz⟩ := hq
      have hy : z ≠ 0 ↔ tx_low (mi_a h0 111 ze.toNat) := by rw [← ea]; exact hz
      refine mt_tk6 g1 ok oc ol od oe oz o6 o7 ?_ ?_ ?_
      · intro c3
        refine ⟨by omega, fun h3 r1 r2 => ?_⟩
        have e3 := me_nil r2
        subst e3
        exact more (fun _ => ⟨by omega, hy.mp c3⟩) (fun q => absurd q (fun q2 => ex c2 q2)) (Or.inl c2) (by omega)
      · intro c3 c4 h3 r1 r2
        have e3 := me_nil r2
        subst e3
        exact end_ (fun x => (hy.mpr x.2.2) c3) (fun x => x.2.1 c4)
      · intro c3 c4
        exact absurd c4 (fun q2 => ex c2 q2)
end TQN
def ty_I (h0 h : sm_H) (zk : Int) : Prop := px_V h ∧ 0 ≤ mi_f h 14011 ∧ mi_f h 14011 ≤ zk ∧ ∃ p : Int → Int, p 0 = 0 ∧ (∀ j, 0 ≤ j → j < mi_f h 14011 → 0 ≤ p j ∧ p j ≤ mi_f h0 13954 ∧ ∃ s, tq_T0 h0 (p j) (mi_a h 152 j.toNat) (mx_b h 154 j.toNat).toInt s (p (j + 1))) ∧ 0 ≤ p (mi_f h 14011) ∧ p (mi_f h 14011) ≤ zk ∧ ∀ j, p (mi_f h 14011) ≤ j → j < zk → j < mi_f h0 13954 ∧ tx_blk (mi_a h0 111 j.toNat)
def tq_R (h0 : sm_H) (w : Option mi_V) (h' : sm_H) : Prop := w = none ∧ ab_Sh sx_sk h' ∧ ab_Fr tk_W h0 h' ∧ mi_a h' 152 (mi_f h' 14011).toNat = 0 ∧ px_V h' ∧ ∃ p, tq_S (mi_f h0 13954) (mi_a h0 111) (mi_f h0 13962) (tq_L h0) (px_E h').1 (px_E h').2.1 p (mi_f h' 14011)
theorem me_tokx {d : Nat} {h0 : sm_H} (hS0 : ab_Sh sx_sk h0) (hO : tq_O h0) (hc0 : ∀ i : Nat, (i : Int) < mi_f h0 13954 → 0 ≤ mi_a h0 111 i) : me_E (d + 1) 229 0 [some (.inr (.inr 109)), none, none, none, none, none, none, none] [] h0 (tq_R h0) := by
  have e2 := (me_fb (c := 13954) hS0 rfl).2
  have main : ∀ (N : Nat) (zk : Int) (q2 q3 q4 q5 q6 q7 : Option mi_V) (h : sm_H), mi_f h0 13954 - zk < N → 0 ≤ zk → zk ≤ mi_f h0 13954 → (∀ v, q2 = some v → mi_ok v) → (∀ v, q3 = some v → mi_ok v) → (∀ v, q4 = some v → mi_ok v) → (∀ v, q5 = some v → mi_ok v) → (∀ v, q6 = some v → mi_ok v) → (∀ v, q7 = some v → mi_ok v) → ab_Sh sx_sk h → ab_Fr tk_W h0 h → ty_I h0 h zk → me_E (d + 1) 229 7 [some (.inr (.inr 109)), some (.inl zk), q2, q3, q4, q5, q6, q7] [] h (tq_R h0) := by
    intro N
    induction N with
    | zero => intro zk q2 q3 q4 q5 q6 q7 h hN _ _; exfalso; omega
    | succ N ih =>
      intro zk q2 q3 q4 q5 q6 q7 h hN k0 k1 o2 o3 o4 o5 o6 o7 hS hF hI
      obtain ⟨hV, t0, t1, p, p0, p1, p2, p3, p4⟩ := hI
      have ok : mi_in zk := ⟨by omega, by omega⟩
      have e13 : mi_f h 13954 = mi_f h0 13954 := me_f (c := 13954) hF hS0 rfl rfl
      have ea : mi_a h 111 zk.toNat = mi_a h0 111 zk.toNat := me_a (k := 111) hF hS0 rfl rfl
      refine mt_tk1 hS ok o2 o3 o4 o5 o6 o7 ?_ ?_
      · intro b1 b2 c
        refine ⟨by omega, fun h1 g1 g2 g3 g4 => ?_⟩
        have f11 : mi_f h1 14011 = mi_f h 14011 := me_f (c := 14011) g4 hS rfl rfl
        have eb : ∀ i, mx_b h1 154 i = mx_b h 154 i := fun i => me_b (k := 154) g4 hS rfl rfl
        have ek : mi_a h1 152 (mi_f h1 14011).toNat = 0 := by rw [f11, g2, if_pos rfl]
        refine ⟨rfl, g1, hF.trans (g4.wide (fun c hc => ab_swr_ok (by decide) hc)), ek, fun i hi => ?_, fun j => if j ≤ mi_f h 14011 then p j else mi_f h0 13954, ?_, ?_, ek, by omega⟩
        · rw [eb]
          exact hV i (by omega)
        · show (if (0 : Int) ≤ mi_f h 14011 then p 0 else mi_f h0 13954) = 0
          rw [if_pos t0]
          exact p0
        · intro j j0 j1
          show 0 ≤ (if j ≤ mi_f h 14011 then p j else mi_f h0 13954) ∧ (if j ≤ mi_f h 14011 then p j else mi_f h0 13954) ≤ mi_f h0 13954 ∧ ∃ s, tq_T (mi_f h0 13954) (mi_a h0 111) (mi_f h0 13962) (tq_L h0) (if j ≤ mi_f h 14011 then p j else mi_f h0 13954) (mi_a h1 152 j.toNat) (mx_b h1 154 j.toNat).toInt s (if j + 1 ≤ mi_f h 14011 then p (j + 1) else mi_f h0 13954)
          rw [if_pos (by omega), eb]
          by_cases ej : j = mi_f h 14011
          · subst ej
            refine ⟨p2, by omega, mi_f h0 13954, ⟨by omega, fun i i0 i1 => p4 i i0 (by omega), fun x => by have := x.1; omega⟩, Or.inl ⟨by omega, ?_, by rw [if_neg (by omega)]⟩⟩
            rw [← f11]
            exact ek
          · rw [if_pos (by omega), g2, if_neg (by omega)]
            exact p1 j j0 (by omega)
      · intro b c
        refine ⟨by omega, fun h1 g1 g2 => ?_⟩
        have e3 := me_nil g2
        subst e3
        refine ⟨_, me_blx g1 (mi_inT _), fun w h2 ow hq => ?_⟩
        obtain ⟨rfl, z, rfl, oz, hz⟩ := hq
        have oc := mi_inT (mx_a h2 111 (Int.toNat zk))
        have hy : z ≠ 0 ↔ tx_blk (mi_a h0 111 zk.toNat) := by rw [← ea]; exact hz
        refine mt_tk2 g1 ok oc oz o3 o4 o5 o6 o7 ?_ ?_
        · intro b2 c2
          have hb : tx_end tx_blk (mi_f h0 13954) (mi_a h0 111) (p (mi_f h2 14011)) zk := ⟨p3, p4, fun x => (hy.mpr x.2) c2⟩
          refine ⟨by omega, fun h3 r1 r2 r3 => ⟨_, me_lox r1 oc, fun w h4 ow hq => ?_⟩⟩
          obtain ⟨rfl, z2, rfl, oz2, hz2⟩ := hq
          refine mt_tk3 r1 ok oc oz2 o3 o4 o5 o6 o7 ?_
          intro h5 s1 s2
          have e3 := me_nil s2
          subst e3
          refine ⟨_, me_dix s1 oc, fun w h6 ow hq => ?_⟩
          obtain ⟨rfl, z3, rfl, oz3, hz3⟩ := hq
          refine mt_tk4 s1 ok oc oz2 oz3 o4 o5 o6 o7 ?_
          refine ⟨by omega, fun h7 u1 u2 => ?_⟩
          have e3 := me_nil u2
          subst e3
          have hF3 := hF.trans (r3.wide (wr' := tk_W) (fun c hc => ab_swr_ok (by decide) hc))
          have hH : ty_H h0 h2 h7 := ⟨u1, hF3, me_f (c := 14011) r3 g1 rfl rfl, fun i => me_a (k := 152) r3 g1 rfl rfl, fun i _ => me_b (k := 154) r3 g1 rfl rfl⟩
          have hzc : mi_a h2 111 zk.toNat = mi_a h0 111 zk.toNat := ea
          refine ty61 (hh := h2) (a := p (mi_f h2 14011)) ?_ hS0 hO k0 hb t1 hzc (by rw [hzc]; exact hc0 _ (by omega)) hz2 hz3 oc oz2 oz3 o6 o7 hH 200 (zk + 1) (by omega) (by omega) (by omega) (fun q j j0 j1 => ?_) (fun q j j0 j1 => ?_) (fun _ _ => rfl)
          · intro ze y2 y3 y4 y5 y6 y7 h8 x1 x2 v2 v3 v4 v5 v6 v7 x3 x4 x5 x6 x7 x8 x9 x10
            refine ih ze y2 y3 y4 y5 y6 y7 h8 (by omega) (by omega) x2 v2 v3 v4 v5 v6 v7 x3 x4 ⟨fun i hi => ?_, by omega, by omega, fun j => if j ≤ mi_f h2 14011 then p j else ze, ?_, fun j j0 j1 => ?_, ?_, ?_, ?_⟩
            · by_cases ei : i = (mi_f h2 14011).toNat
              · rw [ei]
                exact ⟨x8, x9⟩
              · rw [x7 i ei]
                exact hV i (by omega)
            · show (if (0 : Int) ≤ mi_f h2 14011 then p 0 else ze) = 0
              rw [if_pos t0]
              exact p0
            · show 0 ≤ (if j ≤ mi_f h2 14011 then p j else ze) ∧ (if j ≤ mi_f h2 14011 then p j else ze) ≤ mi_f h0 13954 ∧ ∃ s, tq_T0 h0 (if j ≤ mi_f h2 14011 then p j else ze) (mi_a h8 152 j.toNat) (mx_b h8 154 j.toNat).toInt s (if j + 1 ≤ mi_f h2 14011 then p (j + 1) else ze)
              rw [if_pos (by omega)]
              by_cases ej : j = mi_f h2 14011
              · subst ej
                rw [if_neg (by omega)]
                exact ⟨p2, by omega, zk, x10⟩
              · rw [if_pos (by omega), x6 _ (by omega), x7 _ (by omega)]
                exact p1 j j0 (by omega)
            · show 0 ≤ (if mi_f h8 14011 ≤ mi_f h2 14011 then p (mi_f h8 14011) else ze)
              rw [if_neg (by omega)]
              omega
            · show (if mi_f h8 14011 ≤ mi_f h2 14011 then p (mi_f h8 14011) else ze) ≤ ze
              rw [if_neg (by omega)]
              omega
            · show ∀ j, (if mi_f h8 14011 ≤ mi_f h2 14011 then p (mi_f h8 14011) else ze) ≤ j → j < ze → _
              rw [if_neg (by omega)]
              intro j j0 j1
              omega
          · have ej : j = zk := by omega
            subst ej
            rw [← hzc]
            exact ⟨by omega, hz2.mp q⟩
          · have ej : j = zk := by omega
            subst ej
            rw [← hzc]
            exact ⟨by omega, hz3.mp q⟩
        · intro c2
          refine ⟨by omega, fun h3 r1 r2 => ?_⟩
          have e3 := me_nil r2
          subst e3
          refine ih (zk + 1) _ _ _ _ _ _ _ (by omega) (by omega) (by omega) (me_oi oc) o3 o4 o5 o6 o7 hS hF ⟨hV, t0, by omega, p, p0, p1, p2, by omega, fun j j0 j1 => ?_⟩
          by_cases ej : j = zk
          · subst ej
            exact ⟨by omega, hy.mp c2⟩
          · exact p4 j j0 (by omega)
  refine mt_tk0 hS0 ?_
  intro h1 g1 g2 g3
  exact main 200 0 _ _ _ _ _ _ h1 (by omega) (by decide) (me_fb (c := 13954) hS0 rfl).1 me_on me_on me_on me_on me_on me_on g1 (g3.wide (fun c hc => ab_swr_ok (by decide) hc)) ⟨fun i hi => by omega, by omega, by omega, fun _ => 0, rfl, fun j j0 j1 => by omega, Int.le_refl _, Int.le_refl _, fun j (j0 : 0 ≤ j) j1 => by omega⟩
