/-! the reference's alternative, exactly -/
/-- the parts' void, starts, height are those of X -/
def rp_ok (P : Int → sp_P) (X : sp_X) (h : sm_H) (u : Int) : Prop := mi_a h 131 u.toNat = sp_v X (P u) ∧ mx_b h 134 u.toNat = sp_s X (P u) ∧ mi_a h 142 u.toNat = rh_p X (P u)
def al_W : List (Nat × Nat) := [(16896, 16897), (17280, 17281), (17920, 17921), (18304, 18305), (18560, 18561)]
def al_R (X : sp_X) (h : sm_H) (za ze zh : Int) (zs : Int64) (us : List sp_P) (w : Option mi_V) (h' : sm_H) : Prop := w = none ∧ ab_Sh sx_sk h' ∧ ab_Fr al_W h h' ∧ (∀ i, mi_a h' 132 i = if i = za.toNat then (if ze ≠ 0 then sa_v X us else 0) else mi_a h 132 i) ∧ (∀ i, mx_b h' 135 i = if i = za.toNat then (if ze ≠ 0 then zs ||| sa_s X us else zs) else mx_b h 135 i) ∧ ∀ i, mi_a h' 143 i = if i = za.toNat then min 1000 (max zh (sa_h X us)) else mi_a h 143 i
section ALX
variable {d : Nat} {h : sm_H} {za zn : Int} {X : sp_X} {P : Int → sp_P}
theorem alx20 (hP : P = rv_p (mi_a h)) (a0 : 0 ≤ za) (a1 : za < 80) (hS : ab_Sh sx_sk h) (hn : zn ≤ 60) : ∀ (rest : List Int) (ze zl zh zk : Int) (zs : Int64) (q9 q10 : Option mi_V), zn = zk + rest.length → 0 ≤ zk → (∀ (k : Nat) (x : Int), rest[k]? = some x → mi_a h 145 (zk.toNat + k) = x ∧ 0 ≤ x ∧ x < 60) → (∀ x ∈ rest, rp_ok P X h x) → (ze = 0 ∨ ze = 1) → mi_in zl → mi_in zh → 0 ≤ zh → (∀ v, q9 = some v → mi_ok v) → (∀ v, q10 = some v → mi_ok v) → me_E (d + 1) 196 20 [some (.inr (.inr 109)), some (.inl za), some (.inl zn), some (.inl ze), some (.inr (.inl zs)), none, some (.inl zl), some (.inl zh), some (.inl zk), q9, q10] [] h (al_R X h za ze zh zs (rest.map P)) := by
  have oa : mi_in za := ⟨by omega, by omega⟩
  intro rest
  induction rest with
  | nil =>
    intro ze zl zh zk zs q9 q10 hz k0 hr hp e01 ol oh h0 o9 o10
    have hz : zn = zk := by rw [hz]; show zk + 0 = zk; omega
    have on : mi_in zn := ⟨by omega, by omega⟩
    have oe : mi_in ze := ⟨by omega, by omega⟩
    have ok : mi_in zk := ⟨by omega, by omega⟩
    have v1 : (if ze ≠ 0 then sa_v X ([] : List sp_P) else 0) = ze := by
      by_cases c : ze ≠ 0
      · rw [if_pos c]; show (1 : Int) = ze; omega
      · rw [if_neg c]; omega
    have v2 : (if ze ≠ 0 then zs ||| sa_s X ([] : List sp_P) else zs) = zs := by
      by_cases c : ze ≠ 0
      · rw [if_pos c]; exact or_0r zs
      · rw [if_neg c]
    refine mt_alC hS oa on oe ol oh ok o9 o10 ?_ ?_ ?_ ?_
    · intro c1 c2
      refine ⟨by omega, fun h1 g1 g2 g3 g4 g5 g6 => ⟨rfl, g1, g6.wide (fun c hc => ab_swr_ok (by decide) hc), fun i => ?_, fun i => ?_, fun i => ?_⟩⟩
      · rw [g2 i]; show _ = if i = za.toNat then (if ze ≠ 0 then sa_v X ([] : List sp_P) else 0) else _; rw [v1]
      · rw [g5 i]; show _ = if i = za.toNat then (if ze ≠ 0 then zs ||| sa_s X ([] : List sp_P) else zs) else _; rw [v2]
      · rw [g4 i]; show _ = if i = za.toNat then min 1000 (max zh 0) else _; rw [show min 1000 (max zh 0) = zh by omega]
    · intro c1 c2
      refine ⟨by omega, fun h1 g1 g2 g3 g4 g5 g6 => ⟨rfl, g1, g6.wide (fun c hc => ab_swr_ok (by decide) hc), fun i => ?_, fun i => ?_, fun i => ?_⟩⟩
      · rw [g2 i]; show _ = if i = za.toNat then (if ze ≠ 0 then sa_v X ([] : List sp_P) else 0) else _; rw [v1]
      · rw [g5 i]; show _ = if i = za.toNat then (if ze ≠ 0 then zs ||| sa_s X ([] : List sp_P) else zs) else _; rw [v2]
      · rw [g4 i]; show _ = if i = za.toNat then min 1000 (max zh 0) else _; rw [show min 1000 (max zh 0) = 1000 by omega]
    · intro c1; exfalso; omega
    · intro c1; exfalso; omega
  | cons u r ih =>
    intro ze zl zh zk zs q9 q10 hz k0 hr hp e01 ol oh h0 o9 o10
    have hz : zn = zk + 1 + r.length := by rw [hz, List.length_cons]; omega
    have on : mi_in zn := ⟨by omega, by omega⟩
    have oe : mi_in ze := ⟨by omega, by omega⟩
    have ok : mi_in zk := ⟨by omega, by omega⟩
    have oz : mi_in 0 := ⟨by decide, by decide⟩
    have lt : zk < zn := by omega
    obtain ⟨r1, r2, r3⟩ := hr 0 u rfl
    have r1 : mi_a h 145 zk.toNat = u := r1
    obtain ⟨m1, m2, m3⟩ := hp u List.mem_cons_self
    have w1 : (P u).2.2.1 ≠ 0 ↔ 0 < mi_a h 122 u.toNat := by
      rw [hP]
      show (if 0 < mi_a h 122 u.toNat then (if mi_a h 122 u.toNat = 1 then (1 : Int) else 2) else 0) ≠ 0 ↔ _
      by_cases c : 0 < mi_a h 122 u.toNat
      · rw [if_pos c]
        exact ⟨fun _ => c, fun _ => by split <;> decide⟩
      · rw [if_neg c]
        exact ⟨fun q => absurd rfl q, fun q => absurd q c⟩
    have hr' : ∀ (k : Nat) (x : Int), r[k]? = some x → mi_a h 145 ((zk + 1).toNat + k) = x ∧ 0 ≤ x ∧ x < 60 := fun k x hx => by
      have := hr (k + 1) x hx
      have e : zk.toNat + (k + 1) = (zk + 1).toNat + k := by omega
      rw [e] at this
      exact this
    have nx : ∀ (ze' zh' zl' : Int) (zs' : Int64) (q10 : Option mi_V), (ze' = 0 ∨ ze' = 1) → (ze' ≠ 0 ↔ (ze ≠ 0 ∧ sp_e X (P u))) → zs' = (if ze ≠ 0 then zs ||| sp_s X (P u) else zs) → zh' = max zh (sp_h X (P u)) → mi_in zl' → mi_in zh' → (∀ v, q10 = some v → mi_ok v) → me_E (d + 1) 196 20 [some (.inr (.inr 109)), some (.inl za), some (.inl zn), some (.inl ze'), some (.inr (.inl zs')), none, some (.inl zl'), some (.inl zh'), some (.inl (zk + 1)), some (.inl (mi_a h 145 zk.toNat)), q10] [] h (al_R X h za ze zh zs ((u :: r).map P)) := by
      intro ze' zh' zl' zs' q10 e01' q3 q4 q5 ol' oh' o10'
      refine (ih ze' zl' zh' (zk + 1) zs' _ q10 hz (by omega) hr' (fun x hx => hp x (List.mem_cons_of_mem _ hx)) e01' ol' oh' (by omega) (me_oi (mi_inT _)) o10').imp (fun w h' hq => ?_)
      obtain ⟨s1, s2, s3, s4, s5, s6⟩ := hq
      refine ⟨s1, s2, s3, fun i => ?_, fun i => ?_, fun i => ?_⟩
      · rw [s4 i, List.map_cons]
        congr 1
        rw [sa_v_c]
        by_cases ce : ze ≠ 0
        · rw [if_pos ce]
          by_cases cp : sp_e X (P u)
          · rw [if_pos cp, if_pos (q3.mpr ⟨ce, cp⟩)]
          · rw [if_neg cp, if_neg (fun q => cp (q3.mp q).2)]
        · rw [if_neg ce, if_neg (fun q => ce (q3.mp q).1)]
      · rw [s5 i, q4, List.map_cons]
        congr 1
        rw [sa_s_c]
        by_cases ce : ze ≠ 0
        · rw [if_pos ce, if_pos ce]
          by_cases cp : sp_e X (P u)
          · rw [if_pos cp, if_pos (q3.mpr ⟨ce, cp⟩), or_as]
          · rw [if_neg cp, if_neg (fun q => cp (q3.mp q).2)]
        · rw [if_neg ce, if_neg ce, if_neg (fun q => ce (q3.mp q).1)]
      · rw [s6 i, q5, List.map_cons]
        congr 1
        rw [sa_h_c]
        omega
    have hs : ∀ c : ¬ 0 < mi_a h 122 u.toNat, sp_h X (P u) = mi_a h 142 u.toNat := fun c => by
      rw [rh_sp, if_neg (fun q => c (w1.mp q)), m3]
    have hs0 : 0 < mi_a h 122 u.toNat → sp_h X (P u) = 0 := fun c => by
      rw [rh_sp, if_pos (w1.mpr c)]
    have go : ∀ (zs' : Int64) (zl' : Int), zs' = (if ze ≠ 0 then zs ||| sp_s X (P u) else zs) → mi_in zl' → me_E (d + 1) 196 77 [some (.inr (.inr 109)), some (.inl za), some (.inl zn), some (.inl ze), some (.inr (.inl zs')), none, some (.inl zl'), some (.inl zh), some (.inl zk), some (.inl (mi_a h 145 zk.toNat)), q10] [] h (al_R X h za ze zh zs ((u :: r).map P)) := by
      intro zs' zl' q4 ol'
      have ou : mi_in (mi_a h 145 zk.toNat) := mi_inT _
      refine mt_alD hS oa on oe ol' oh ok ou o10 ?_ ?_ ?_ ?_ ?_
      · intro c0 c1 c2
        refine ⟨by omega, fun h1 g1 g2 => ?_⟩
        have e := me_nil g2
        subst e
        rw [r1] at c1 c2
        exact nx 0 zh zl' zs' _ (Or.inl rfl) ⟨fun q => absurd rfl q, fun q => absurd c0 q.1⟩ q4 (by rw [hs (by omega)]; omega) ol' oh (me_oi (mi_inT _))
      · intro c0 c1 c2
        refine ⟨by omega, fun h1 g1 g2 => ?_⟩
        have e := me_nil g2
        subst e
        have c1' := c1
        have c2' := c2
        rw [r1] at c1' c2'
        exact nx 0 _ zl' zs' _ (Or.inl rfl) ⟨fun q => absurd rfl q, fun q => absurd c0 q.1⟩ q4 (by rw [hs (by omega), r1]; omega) ol' (mi_inT _) (me_oi (mi_inT _))
      · intro c0 c1 c2
        refine ⟨by omega, fun h1 g1 g2 => ?_⟩
        have e := me_nil g2
        subst e
        rw [r1] at c1
        exact nx 0 zh zl' zs' _ (Or.inl rfl) ⟨fun q => absurd rfl q, fun q => absurd c0 q.1⟩ q4 (by rw [hs0 c1]; omega) ol' oh (me_oi oz)
      · intro c0 c1 c2; exfalso; omega
      · intro c0 h1 g1 g2
        have e := me_nil g2
        subst e
        refine ⟨_, me_isVoidx g1 (by rw [r1]; exact r2) (by rw [r1]; exact r3), fun w h2 ow hq => ?_⟩
        obtain ⟨e, z, rfl, z01, hz⟩ := hq
        subst e
        rw [r1] at hz
        have ie : z = 1 ↔ sp_e X (P u) := by
          rw [hz, m1]
          unfold sp_e
          rw [w1]
        refine mt_alE g1 oa on oe ol' oh ok ou ⟨by omega, by omega⟩ o10 ?_ ?_ ?_ ?_ ?_ ?_ ?_ ?_
        · intro b0 b1 b2
          refine ⟨by omega, fun h1 g1 g2 => ?_⟩
          have e := me_nil g2
          subst e
          rw [r1] at b1 b2
          exact nx 0 zh zl' zs' _ (Or.inl rfl) ⟨fun q => absurd rfl q, fun q => by have := ie.mpr q.2; omega⟩ q4 (by rw [hs (by omega)]; omega) ol' oh (me_oi (mi_inT _))
        · intro b0 b1 b2
          refine ⟨by omega, fun h1 g1 g2 => ?_⟩
          have e := me_nil g2
          subst e
          have b1' := b1
          have b2' := b2
          rw [r1] at b1' b2'
          exact nx 0 _ zl' zs' _ (Or.inl rfl) ⟨fun q => absurd rfl q, fun q => by have := ie.mpr q.2; omega⟩ q4 (by rw [hs (by omega), r1]; omega) ol' (mi_inT _) (me_oi (mi_inT _))
        · intro b0 b1 b2
          refine ⟨by omega, fun h1 g1 g2 => ?_⟩
          have e := me_nil g2
          subst e
          rw [r1] at b1
          exact nx 0 zh zl' zs' _ (Or.inl rfl) ⟨fun q => absurd rfl q, fun q => by have := ie.mpr q.2; omega⟩ q4 (by rw [hs0 b1]; omega) ol' oh (me_oi oz)
        · intro b0 b1 b2; exfalso; omega
        · intro b0 b1 b2
          refine ⟨by omega, fun h1 g1 g2 => ?_⟩
          have e := me_nil g2
          subst e
          rw [r1] at b1 b2
          exact nx 1 zh zl' zs' _ (Or.inr rfl) ⟨fun _ => ⟨c0, ie.mp (by omega)⟩, fun _ => by decide⟩ q4 (by rw [hs (by omega)]; omega) ol' oh (me_oi (mi_inT _))
        · intro b0 b1 b2
          refine ⟨by omega, fun h1 g1 g2 => ?_⟩
          have e := me_nil g2
          subst e
          have b1' := b1
          have b2' := b2
          rw [r1] at b1' b2'
          exact nx 1 _ zl' zs' _ (Or.inr rfl) ⟨fun _ => ⟨c0, ie.mp (by omega)⟩, fun _ => by decide⟩ q4 (by rw [hs (by omega), r1]; omega) ol' (mi_inT _) (me_oi (mi_inT _))
        · intro b0 b1 b2
          refine ⟨by omega, fun h1 g1 g2 => ?_⟩
          have e := me_nil g2
          subst e
          rw [r1] at b1
          exact nx 1 zh zl' zs' _ (Or.inr rfl) ⟨fun _ => ⟨c0, ie.mp (by omega)⟩, fun _ => by decide⟩ q4 (by rw [hs0 b1]; omega) ol' oh (me_oi oz)
        · intro b0 b1 b2; exfalso; omega
    refine mt_alC hS oa on oe ol oh ok o9 o10 ?_ ?_ ?_ ?_
    · intro c1; exfalso; omega
    · intro c1; exfalso; omega
    · intro c1 c2
      refine ⟨by omega, fun h1 g1 g2 => ?_⟩
      have e := me_nil g2
      subst e
      exact go zs zl (by rw [if_neg (fun q => q c2)]) ol
    · intro c1 c2
      have r1' := r1
      refine ⟨by omega, fun h1 g1 g2 => ?_⟩
      have e := me_nil g2
      subst e
      refine go _ _ ?_ (mi_inT _)
      rw [if_pos c2, r1, m2]
def rv_l (g : wk_g) (a : Int) : List sp_P := (wk_row g 61 (g 126 a.toNat)).map (rv_p g)
def al_X (X : sp_X) (h : sm_H) (za : Int) (w : Option mi_V) (h' : sm_H) : Prop := w = none ∧ ab_Sh sx_sk h' ∧ ab_Fr al_W h h' ∧ (∀ i, mi_a h' 132 i = if i = za.toNat then sa_v X (rv_l (mi_a h) za) else mi_a h 132 i) ∧ (∀ i, mx_b h' 135 i = if i = za.toNat then sa_s X (rv_l (mi_a h) za) else mx_b h 135 i) ∧ ∀ i, mi_a h' 143 i = if i = za.toNat then min 1000 (sa_h X (rv_l (mi_a h) za)) else mi_a h 143 i
theorem me_alternativex {U : Int} (hS : ab_Sh sx_sk h) (hC : wk_C (mi_a h) U) (a0 : 0 ≤ za) (a1 : za < 80) (hu : mi_a h 126 za.toNat < 0 ∨ mi_a h 126 za.toNat < U) (hp : ∀ u, 0 ≤ u → u < U → rp_ok (rv_p (mi_a h)) X h u) : me_E (d + 1) 196 0 [some (.inr (.inr 109)), some (.inl za), none, none, none, none, none, none, none, none, none] [] h (al_X X h za) := by
  have oa : mi_in za := ⟨by omega, by omega⟩
  have hU := hC.1
  refine mt_alA hS oa ?_
  intro h1 g1 g2
  have e := me_nil g2
  subst e
  refine ⟨_, me_line g1 hC a0 a1 hu, fun w h2 ow hq => ?_⟩
  obtain ⟨q1, q2, rfl, q4, q5⟩ := hq
  refine mt_alB q1 oa ⟨by omega, by omega⟩ ?_
  intro h3 r1 r2
  have e := me_nil r2
  subst e
  have eq := rv_eq_fr q2 hS (by rfl)
  have L := alx20 (d := d) (X := X) (P := rv_p (mi_a h1)) (zn := ((wk_row (mi_a h1) 61 (mi_a h1 126 za.toNat)).length : Int)) eq.p.symm a0 a1 q1 q4 (wk_row (mi_a h1) 61 (mi_a h1 126 za.toNat)) 1 0 0 0 0 none none (by omega) (by decide) (fun k x hx => by
    have := q5 k x hx
    refine ⟨?_, this.2.1, by omega⟩
    show mi_a h3 145 (0 + k) = x
    rw [Nat.zero_add]
    exact this.1) (fun x hx => by
    obtain ⟨k, hk⟩ := List.getElem?_of_mem hx
    have := q5 k x hk
    obtain ⟨y1, y2, y3⟩ := hp x this.2.1 this.2.2
    exact ⟨(me_a (k := 131) q2 hS rfl rfl).trans y1, (me_b (k := 134) q2 hS rfl rfl).trans y2, (me_a (k := 142) q2 hS rfl rfl).trans y3⟩) (Or.inr rfl) fm_in0 fm_in0 (by decide) me_on me_on
  refine L.imp (fun w h' hq => ?_)
  obtain ⟨s1, s2, s3, s4, s5, s6⟩ := hq
  have n0 := sa_h_0 X (rv_l (mi_a h1) za)
  refine ⟨s1, s2, (q2.wide (fun c hc => ab_swr_ok (by decide) hc)).trans s3, fun i => ?_, fun i => ?_, fun i => ?_⟩
  · rw [s4 i, me_a (k := 132) q2 hS rfl rfl, if_pos (c := (1 : Int) ≠ 0) (by decide)]
    rfl
  · rw [s5 i, me_b (k := 135) q2 hS rfl rfl, if_pos (c := (1 : Int) ≠ 0) (by decide)]
    congr 1
    exact tb_ext (fun b => by rw [tb_or, tb_0, Bool.false_or]; rfl)
  · rw [s6 i, me_a (k := 143) q2 hS rfl rfl]
    congr 1
    show min 1000 (max 0 (sa_h X (rv_l (mi_a h1) za))) = _
    omega
end ALX
