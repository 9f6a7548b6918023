/-! the reference's leads: alternative, formOf -/
def rl_ok (β : Int → Int64) (P : Int → sp_P) (L : Nat → Int64) (h : sm_H) (u : Int) : Prop := b64 (mi_a h 139 u.toNat) = cl_R β L (P u)
def al_L (β : Int → Int64) (X : sp_X) (L : Nat → Int64) (h : sm_H) (za ze zl : Int) (us : List sp_P) (w : Option mi_V) (h' : sm_H) : Prop := w = none ∧ ab_Sh sx_sk h' ∧ ab_Fr al_W h h' ∧ ∀ i, b64 (mi_a h' 140 i) = if i = za.toNat then (if ze ≠ 0 then b64 zl ||| sl_a β X L us else b64 zl) else b64 (mi_a h 140 i)
section ALL
variable {d : Nat} {h : sm_H} {za zn : Int} {X : sp_X} {P : Int → sp_P} {β : Int → Int64} {L : Nat → Int64}
theorem alx20l (hP : P = rv_p (mi_a h)) (a0 : 0 ≤ za) (a1 : za < 80) (hS : ab_Sh sx_sk h) (hn : zn ≤ 60) : ∀ (rest : List Int) (ze zl zh zk : Int) (zs : Int64) (q9 q10 : Option mi_V), zn = zk + rest.length → 0 ≤ zk → (∀ (k : Nat) (x : Int), rest[k]? = some x → mi_a h 145 (zk.toNat + k) = x ∧ 0 ≤ x ∧ x < 60) → (∀ x ∈ rest, rp_ok P X h x ∧ rl_ok β P L h x) → (ze = 0 ∨ ze = 1) → mi_in zl → mi_in zh → (∀ v, q9 = some v → mi_ok v) → (∀ v, q10 = some v → mi_ok v) → me_E (d + 1) 196 20 [some (.inr (.inr 109)), some (.inl za), some (.inl zn), some (.inl ze), some (.inr (.inl zs)), none, some (.inl zl), some (.inl zh), some (.inl zk), q9, q10] [] h (al_L β X L h za ze zl (rest.map P)) := by
  have oa : mi_in za := ⟨by omega, by omega⟩
  intro rest
  induction rest with
  | nil =>
    intro ze zl zh zk zs q9 q10 hz k0 hr hp e01 ol oh o9 o10
    have hz : zn = zk := by rw [hz]; show zk + 0 = zk; omega
    have on : mi_in zn := ⟨by omega, by omega⟩
    have oe : mi_in ze := ⟨by omega, by omega⟩
    have ok : mi_in zk := ⟨by omega, by omega⟩
    have v2 : (if ze ≠ 0 then b64 zl ||| sl_a β X L ([] : List sp_P) else b64 zl) = b64 zl := by
      by_cases c : ze ≠ 0
      · rw [if_pos c]; exact or_0r _
      · rw [if_neg c]
    have fin : ∀ h1, (∀ i, mi_a h1 140 i = if i = za.toNat then zl else mi_a h 140 i) → ∀ i, b64 (mi_a h1 140 i) = if i = za.toNat then (if ze ≠ 0 then b64 zl ||| sl_a β X L ([] : List sp_P) else b64 zl) else b64 (mi_a h 140 i) := fun h1 g3 i => by
      rw [g3 i, v2]
      by_cases c : i = za.toNat
      · rw [if_pos c, if_pos c]
      · rw [if_neg c, if_neg c]
    refine mt_alC hS oa on oe ol oh ok o9 o10 ?_ ?_ ?_ ?_
    · intro c1 c2
      exact ⟨by omega, fun h1 g1 g2 g3 g4 g5 g6 => ⟨rfl, g1, g6.wide (fun c hc => ab_swr_ok (by decide) hc), fin h1 g3⟩⟩
    · intro c1 c2
      exact ⟨by omega, fun h1 g1 g2 g3 g4 g5 g6 => ⟨rfl, g1, g6.wide (fun c hc => ab_swr_ok (by decide) hc), fin h1 g3⟩⟩
    · intro c1; exfalso; omega
    · intro c1; exfalso; omega
  | cons u r ih =>
    intro ze zl zh zk zs q9 q10 hz k0 hr hp e01 ol oh o9 o10
    have hz : zn = zk + 1 + r.length := by rw [hz, List.length_cons]; omega
    have on : mi_in zn := ⟨by omega, by omega⟩
    have oe : mi_in ze := ⟨by omega, by omega⟩
    have ok : mi_in zk := ⟨by omega, by omega⟩
    have oz : mi_in 0 := ⟨by decide, by decide⟩
    have lt : zk < zn := by omega
    obtain ⟨r1, r2, r3⟩ := hr 0 u rfl
    have r1 : mi_a h 145 zk.toNat = u := r1
    obtain ⟨⟨m1, m2, m3⟩, m4⟩ := hp u List.mem_cons_self
    have w1 : (P u).2.2.1 ≠ 0 ↔ 0 < mi_a h 122 u.toNat := by
      rw [hP]
      show (if 0 < mi_a h 122 u.toNat then (if mi_a h 122 u.toNat = 1 then (1 : Int) else 2) else 0) ≠ 0 ↔ _
      by_cases c : 0 < mi_a h 122 u.toNat
      · rw [if_pos c]
        exact ⟨fun _ => c, fun _ => by split <;> decide⟩
      · rw [if_neg c]
        exact ⟨fun q => absurd rfl q, fun q => absurd q c⟩
    have hr' : ∀ (k : Nat) (x : Int), r[k]? = some x → mi_a h 145 ((zk + 1).toNat + k) = x ∧ 0 ≤ x ∧ x < 60 := fun k x hx => by
      have := hr (k + 1) x hx
      have e : zk.toNat + (k + 1) = (zk + 1).toNat + k := by omega
      rw [e] at this
      exact this
    have nx : ∀ (ze' zh' zl' : Int) (zs' : Int64) (q10 : Option mi_V), (ze' = 0 ∨ ze' = 1) → (ze' ≠ 0 ↔ (ze ≠ 0 ∧ sp_e X (P u))) → b64 zl' = (if ze ≠ 0 then b64 zl ||| cl_R β L (P u) else b64 zl) → mi_in zl' → mi_in zh' → (∀ v, q10 = some v → mi_ok v) → me_E (d + 1) 196 20 [some (.inr (.inr 109)), some (.inl za), some (.inl zn), some (.inl ze'), some (.inr (.inl zs')), none, some (.inl zl'), some (.inl zh'), some (.inl (zk + 1)), some (.inl (mi_a h 145 zk.toNat)), q10] [] h (al_L β X L h za ze zl ((u :: r).map P)) := by
      intro ze' zh' zl' zs' q10 e01' q3 q4 ol' oh' o10'
      refine (ih ze' zl' zh' (zk + 1) zs' _ q10 hz (by omega) hr' (fun x hx => hp x (List.mem_cons_of_mem _ hx)) e01' ol' oh' (me_oi (mi_inT _)) o10').imp (fun w h' hq => ?_)
      obtain ⟨s1, s2, s3, s4⟩ := hq
      refine ⟨s1, s2, s3, fun i => ?_⟩
      rw [s4 i, q4, List.map_cons]
      congr 1
      rw [sl_a_c]
      by_cases ce : ze ≠ 0
      · rw [if_pos ce, if_pos ce]
        by_cases cp : sp_e X (P u)
        · rw [if_pos cp, if_pos (q3.mpr ⟨ce, cp⟩), or_as]
        · rw [if_neg cp, if_neg (fun q => cp (q3.mp q).2)]
      · rw [if_neg ce, if_neg ce, if_neg (fun q => ce (q3.mp q).1)]
    have go : ∀ (zs' : Int64) (zl' : Int), b64 zl' = (if ze ≠ 0 then b64 zl ||| cl_R β L (P u) else b64 zl) → mi_in zl' → me_E (d + 1) 196 77 [some (.inr (.inr 109)), some (.inl za), some (.inl zn), some (.inl ze), some (.inr (.inl zs')), none, some (.inl zl'), some (.inl zh), some (.inl zk), some (.inl (mi_a h 145 zk.toNat)), q10] [] h (al_L β X L h za ze zl ((u :: r).map P)) := by
      intro zs' zl' q4 ol'
      have ou : mi_in (mi_a h 145 zk.toNat) := mi_inT _
      have n0 : ze = 0 → ((0 : Int) ≠ 0 ↔ (ze ≠ 0 ∧ sp_e X (P u))) := fun c0 => ⟨fun q => absurd rfl q, fun q => absurd c0 q.1⟩
      refine mt_alD hS oa on oe ol' oh ok ou o10 ?_ ?_ ?_ ?_ ?_
      · intro c0 c1 c2
        refine ⟨by omega, fun h1 g1 g2 => ?_⟩
        have e := me_nil g2
        subst e
        exact nx 0 zh zl' zs' _ (Or.inl rfl) (n0 c0) q4 ol' oh (me_oi (mi_inT _))
      · intro c0 c1 c2
        refine ⟨by omega, fun h1 g1 g2 => ?_⟩
        have e := me_nil g2
        subst e
        exact nx 0 _ zl' zs' _ (Or.inl rfl) (n0 c0) q4 ol' (mi_inT _) (me_oi (mi_inT _))
      · intro c0 c1 c2
        refine ⟨by omega, fun h1 g1 g2 => ?_⟩
        have e := me_nil g2
        subst e
        exact nx 0 zh zl' zs' _ (Or.inl rfl) (n0 c0) q4 ol' oh (me_oi oz)
      · intro c0 c1 c2
        refine ⟨by omega, fun h1 g1 g2 => ?_⟩
        have e := me_nil g2
        subst e
        exact nx 0 0 zl' zs' _ (Or.inl rfl) (n0 c0) q4 ol' oz (me_oi oz)
      · intro c0 h1 g1 g2
        have e := me_nil g2
        subst e
        refine ⟨_, me_isVoidx g1 (by rw [r1]; exact r2) (by rw [r1]; exact r3), fun w h2 ow hq => ?_⟩
        obtain ⟨e, z, rfl, z01, hz⟩ := hq
        subst e
        rw [r1] at hz
        have ie : z = 1 ↔ sp_e X (P u) := by
          rw [hz, m1]
          unfold sp_e
          rw [w1]
        have n1 : z = 0 → ((0 : Int) ≠ 0 ↔ (ze ≠ 0 ∧ sp_e X (P u))) := fun b0 => ⟨fun q => absurd rfl q, fun q => by have := ie.mpr q.2; omega⟩
        have n2 : z ≠ 0 → ((1 : Int) ≠ 0 ↔ (ze ≠ 0 ∧ sp_e X (P u))) := fun b0 => ⟨fun _ => ⟨c0, ie.mp (by omega)⟩, fun _ => by decide⟩
        refine mt_alE g1 oa on oe ol' oh ok ou ⟨by omega, by omega⟩ o10 ?_ ?_ ?_ ?_ ?_ ?_ ?_ ?_
        · intro b0 b1 b2
          refine ⟨by omega, fun h1 g1 g2 => ?_⟩
          have e := me_nil g2
          subst e
          exact nx 0 zh zl' zs' _ (Or.inl rfl) (n1 b0) q4 ol' oh (me_oi (mi_inT _))
        · intro b0 b1 b2
          refine ⟨by omega, fun h1 g1 g2 => ?_⟩
          have e := me_nil g2
          subst e
          exact nx 0 _ zl' zs' _ (Or.inl rfl) (n1 b0) q4 ol' (mi_inT _) (me_oi (mi_inT _))
        · intro b0 b1 b2
          refine ⟨by omega, fun h1 g1 g2 => ?_⟩
          have e := me_nil g2
          subst e
          exact nx 0 zh zl' zs' _ (Or.inl rfl) (n1 b0) q4 ol' oh (me_oi oz)
        · intro b0 b1 b2
          refine ⟨by omega, fun h1 g1 g2 => ?_⟩
          have e := me_nil g2
          subst e
          exact nx 0 0 zl' zs' _ (Or.inl rfl) (n1 b0) q4 ol' oz (me_oi oz)
        · intro b0 b1 b2
          refine ⟨by omega, fun h1 g1 g2 => ?_⟩
          have e := me_nil g2
          subst e
          exact nx 1 zh zl' zs' _ (Or.inr rfl) (n2 b0) q4 ol' oh (me_oi (mi_inT _))
        · intro b0 b1 b2
          refine ⟨by omega, fun h1 g1 g2 => ?_⟩
          have e := me_nil g2
          subst e
          exact nx 1 _ zl' zs' _ (Or.inr rfl) (n2 b0) q4 ol' (mi_inT _) (me_oi (mi_inT _))
        · intro b0 b1 b2
          refine ⟨by omega, fun h1 g1 g2 => ?_⟩
          have e := me_nil g2
          subst e
          exact nx 1 zh zl' zs' _ (Or.inr rfl) (n2 b0) q4 ol' oh (me_oi oz)
        · intro b0 b1 b2
          refine ⟨by omega, fun h1 g1 g2 => ?_⟩
          have e := me_nil g2
          subst e
          exact nx 1 0 zl' zs' _ (Or.inr rfl) (n2 b0) q4 ol' oz (me_oi oz)
    refine mt_alC hS oa on oe ol oh ok o9 o10 ?_ ?_ ?_ ?_
    · intro c1; exfalso; omega
    · intro c1; exfalso; omega
    · intro c1 c2
      refine ⟨by omega, fun h1 g1 g2 => ?_⟩
      have e := me_nil g2
      subst e
      exact go zs zl (by rw [if_neg (fun q => q c2)]) ol
    · intro c1 c2
      have r1' := r1
      refine ⟨by omega, fun h1 g1 g2 => ?_⟩
      have e := me_nil g2
      subst e
      refine go _ _ ?_ (mi_inT _)
      have m4 : b64 (mi_a h1 139 u.toNat) = cl_R β L (P u) := m4
      rw [if_pos c2, b64_or, r1, m4]
def al_Y (β : Int → Int64) (X : sp_X) (L : Nat → Int64) (h : sm_H) (za : Int) (w : Option mi_V) (h' : sm_H) : Prop := w = none ∧ ab_Sh sx_sk h' ∧ ab_Fr al_W h h' ∧ ∀ i, b64 (mi_a h' 140 i) = if i = za.toNat then sl_a β X L (rv_l (mi_a h) za) else b64 (mi_a h 140 i)
theorem me_alternativel {U : Int} (hS : ab_Sh sx_sk h) (hC : wk_C (mi_a h) U) (a0 : 0 ≤ za) (a1 : za < 80) (hu : mi_a h 126 za.toNat < 0 ∨ mi_a h 126 za.toNat < U) (hp : ∀ u, 0 ≤ u → u < U → rp_ok (rv_p (mi_a h)) X h u ∧ rl_ok β (rv_p (mi_a h)) L h u) : me_E (d + 1) 196 0 [some (.inr (.inr 109)), some (.inl za), none, none, none, none, none, none, none, none, none] [] h (al_Y β X L h za) := by
  have oa : mi_in za := ⟨by omega, by omega⟩
  have hU := hC.1
  refine mt_alA hS oa ?_
  intro h1 g1 g2
  have e := me_nil g2
  subst e
  refine ⟨_, me_line g1 hC a0 a1 hu, fun w h2 ow hq => ?_⟩
  obtain ⟨q1, q2, rfl, q4, q5⟩ := hq
  refine mt_alB q1 oa ⟨by omega, by omega⟩ ?_
  intro h3 r1 r2
  have e := me_nil r2
  subst e
  have eq := rv_eq_fr q2 hS (by rfl)
  have L := alx20l (d := d) (X := X) (β := β) (L := L) (P := rv_p (mi_a h1)) (zn := ((wk_row (mi_a h1) 61 (mi_a h1 126 za.toNat)).length : Int)) eq.p.symm a0 a1 q1 q4 (wk_row (mi_a h1) 61 (mi_a h1 126 za.toNat)) 1 0 0 0 0 none none (by omega) (by decide) (fun k x hx => by
    have := q5 k x hx
    refine ⟨?_, this.2.1, by omega⟩
    show mi_a h3 145 (0 + k) = x
    rw [Nat.zero_add]
    exact this.1) (fun x hx => by
    obtain ⟨k, hk⟩ := List.getElem?_of_mem hx
    have := q5 k x hk
    obtain ⟨⟨y1, y2, y3⟩, y4⟩ := hp x this.2.1 this.2.2
    refine ⟨⟨(me_a (k := 131) q2 hS rfl rfl).trans y1, (me_b (k := 134) q2 hS rfl rfl).trans y2, (me_a (k := 142) q2 hS rfl rfl).trans y3⟩, ?_⟩
    unfold rl_ok
    rw [me_a (k := 139) q2 hS rfl rfl]
    exact y4) (Or.inr rfl) fm_in0 fm_in0 me_on me_on
  refine L.imp (fun w h' hq => ?_)
  obtain ⟨s1, s2, s3, s4⟩ := hq
  refine ⟨s1, s2, (q2.wide (fun c hc => ab_swr_ok (by decide) hc)).trans s3, fun i => ?_⟩
  rw [s4 i, me_a (k := 140) q2 hS rfl rfl, if_pos (c := (1 : Int) ≠ 0) (by decide)]
  congr 1
  rw [b64_0, or_0l]
  rfl
end ALL
theorem sl_f_app {β : Int → Int64} {X : sp_X} {L : Nat → Int64} (y : List sp_P) : ∀ pre : List (List sp_P), sl_f β X L (pre ++ [y]) = sl_f β X L pre ||| sl_a β X L y := by
  intro pre
  induction pre with
  | nil =>
    show sl_a β X L y ||| 0 = 0 ||| sl_a β X L y
    rw [or_0r, or_0l]
  | cons a r ih =>
    rw [List.cons_append, sl_f_c, sl_f_c, ih, or_as]
def lp_ok (β : Int → Int64) (X : sp_X) (L : Nat → Int64) (h : sm_H) (a : Int) : Prop := b64 (mi_a h 140 a.toNat) = sl_a β X L (rv_l (mi_a h) a)
def fo_L (β : Int → Int64) (X : sp_X) (L : Nat → Int64) (h : sm_H) (zf : Int) (w : Option mi_V) (h' : sm_H) : Prop := w = none ∧ ab_Sh sx_sk h' ∧ ab_Fr fo_W h h' ∧ (∀ i, b64 (mi_a h' 141 i) = if i = zf.toNat then sl_f β X L (GR (mi_a h) zf.toNat) else b64 (mi_a h 141 i)) ∧ (mi_f h' 13999 = 0 → sl_f β X L (GR (mi_a h) zf.toNat) = b64 (mi_a h 141 zf.toNat))
section FOL
variable {d : Nat} {h : sm_H} {zf : Int} {X : sp_X} {β : Int → Int64} {L : Nat → Int64}
theorem fox105l {ze zl zh za : Int} {zs : Int64} (f0 : 0 ≤ zf) (f1 : zf < 80) (hS : ab_Sh sx_sk h) (e01 : ze = 0 ∨ ze = 1) (el : b64 zl = sl_f β X L (GR (mi_a h) zf.toNat)) (ol : mi_in zl) (oh : mi_in zh) (oa : mi_in za) : me_E d 199 105 [some (.inr (.inr 109)), some (.inl zf), some (.inl ze), some (.inr (.inl zs)), none, some (.inl zl), some (.inl zh), some (.inl za)] [] h (fo_L β X L h zf) := by
  have of : mi_in zf := ⟨by omega, by omega⟩
  have oe : mi_in ze := ⟨by omega, by omega⟩
  have go : ∀ h1, ab_Sh sx_sk h1 → ab_Fr [(13999, 14000)] h h1 → (mi_f h1 13999 = 0 → zl = mi_a h 141 zf.toNat) → me_E d 199 164 [some (.inr (.inr 109)), some (.inl zf), some (.inl ze), some (.inr (.inl zs)), none, some (.inl zl), some (.inl zh), some (.inl za)] [] h1 (fo_L β X L h zf) := by
    intro h1 s1 s2 s3
    refine mt_foD s1 of oe ol oh oa ⟨by omega, fun h2 t1 t2 t3 t4 t5 t6 => ?_⟩
    refine ⟨rfl, t1, (s2.wide (fun c hc => ab_swr_ok (by decide) hc)).trans (t6.wide (fun c hc => ab_swr_ok (by decide) hc)), fun i => ?_, fun q => ?_⟩
    · rw [t3 i, me_a (k := 141) s2 hS rfl rfl, ← el]
      by_cases c : i = zf.toNat
      · rw [if_pos c, if_pos c]
      · rw [if_neg c, if_neg c]
    · have x := s3 ((me_f (c := 13999) t6 s1 rfl rfl).symm.trans q)
      rw [← x]
      exact el.symm
  refine mt_foC hS of oe ol oh oa ?_ ?_ ?_ ?_ ?_ ?_
  · intro b k1 h1 s1 s2 s3
    exact go h1 s1 s3 (fun q => by omega)
  · intro b k1 k2
    exact ⟨by omega, fun h1 s1 s2 s3 => go h1 s1 s3 (fun q => by omega)⟩
  · intro b k1 k2 k3
    exact ⟨by omega, fun h1 s1 s2 s3 => go h1 s1 s3 (fun q => by omega)⟩
  · intro b k1 k2 k3 k4
    exact ⟨by omega, fun h1 s1 s2 s3 => go h1 s1 s3 (fun q => by omega)⟩
  · intro b k1 k2 k3 k4 k5
    exact ⟨by omega, fun h1 s1 s2 s3 => go h1 s1 s3 (fun q => k4)⟩
  · intro b k1 k2 k3 k4 k5
    exact ⟨by omega, fun h1 s1 s2 s3 => go h1 s1 s3 (fun q => by omega)⟩
theorem me_formOfl {Y : wk_Y} {A : Int} (hL : wk_L (mi_a h) Y) (f0 : 0 ≤ zf) (f1 : zf < wk_f Y) (hS : ab_Sh sx_sk h) (hA : ∀ j : Nat, (j : Int) < mi_a h 130 zf.toNat → wk_alt (mi_a h) j (mi_a h 129 zf.toNat) < A) (hp : ∀ a, 0 ≤ a → a < A → lp_ok β X L h a) : me_E d 199 0 [some (.inr (.inr 109)), some (.inl zf), none, none, none, none, none, none] [] h (fo_L β X L h zf) := by
  have h80 := hL.2.1
  have of : mi_in zf := ⟨by omega, by omega⟩
  obtain ⟨-, -, c1, c2, -, c3⟩ := hL.2.2.2 zf f0 f1
  have lp : ∀ (m j : Nat) (pre : List (List sp_P)) (ze zl zh za : Int) (zs : Int64), j + m = (mi_a h 130 zf.toNat).toNat → za = wk_alt (mi_a h) j (mi_a h 129 zf.toNat) → pre ++ rv_as (mi_a h) m za = GR (mi_a h) zf.toNat → (ze = 0 ∨ ze = 1) → b64 zl = sl_f β X L pre → mi_in zl → mi_in zh → mi_in za → me_E d 199 20 [some (.inr (.inr 109)), some (.inl zf), some (.inl ze), some (.inr (.inl zs)), none, some (.inl zl), some (.inl zh), some (.inl za)] [] h (fo_L β X L h zf) := by
    intro m
    induction m with
    | zero =>
      intro j pre ze zl zh za zs hj hza hpre e01 el ol oh oa
      have oe : mi_in ze := ⟨by omega, by omega⟩
      have neg : za < 0 := by
        have ej : j = (mi_a h 130 zf.toNat).toNat := by omega
        rw [← ej, ← hza] at c2
        exact c2
      have epre : pre = GR (mi_a h) zf.toNat := by rw [← hpre]; exact (List.append_nil pre).symm
      rw [epre] at el
      refine mt_foB hS of oe ol oh oa ?_ ?_ ?_ ?_ ?_ ?_ ?_
      · intro c h1 g1 g2
        have e := me_nil g2
        subst e
        exact fox105l f0 (by omega) g1 e01 el ol oh oa
      all_goals
        intro c0
        exfalso
        omega
    | succ m ih =>
      intro j pre ze zl zh za zs hj hza hpre e01 el ol oh oa
      have oe : mi_in ze := ⟨by omega, by omega⟩
      have lt : (j : Int) < mi_a h 130 zf.toNat := by omega
      have bd := c3 j lt
      rw [← hza] at bd
      have ba := hA j lt
      rw [← hza] at ba
      have m1 : b64 (mi_a h 140 za.toNat) = sl_a β X L (rv_l (mi_a h) za) := hp za bd.1 ba
      have hpre' : (pre ++ [rv_l (mi_a h) za]) ++ rv_as (mi_a h) m (mi_a h 128 za.toNat) = GR (mi_a h) zf.toNat := by
        rw [← hpre, List.append_assoc]
        all_goals rfl
      have nx : ∀ (ze' zh' : Int) (zs' : Int64), (ze' = 0 ∨ ze' = 1) → mi_in zh' → me_E d 199 20 [some (.inr (.inr 109)), some (.inl zf), some (.inl ze'), some (.inr (.inl zs')), none, some (.inl ((Int32.ofInt zl ||| Int32.ofInt (mi_a h 140 (Int.toNat za))).toInt)), some (.inl zh'), some (.inl (mi_a h 128 (Int.toNat za)))] [] h (fo_L β X L h zf) := by
        intro ze' zh' zs' q1 oh'
        refine ih (j + 1) _ ze' _ zh' _ zs' (by omega) (by rw [wk_alt_succ, hza]) hpre' q1 ?_ (mi_inT _) oh' (mi_inT _)
        rw [b64_or, sl_f_app, el, m1]
      refine mt_foB hS of oe ol oh oa ?_ ?_ ?_ ?_ ?_ ?_ ?_
      · intro c; exfalso; omega
      · intro w0 w1 w2
        refine ⟨by omega, fun h1 g1 g2 => ?_⟩
        have e := me_nil g2
        subst e
        exact nx _ _ _ (Or.inr rfl) oh
      · intro w0 w1 w2
        refine ⟨by omega, fun h1 g1 g2 => ?_⟩
        have e := me_nil g2
        subst e
        exact nx _ _ _ (Or.inr rfl) (mi_inT _)
      · intro w0 w1 w2 w3
        refine ⟨by omega, fun h1 g1 g2 => ?_⟩
        have e := me_nil g2
        subst e
        exact nx _ _ _ (Or.inl rfl) oh
      · intro w0 w1 w2 w3
        refine ⟨by omega, fun h1 g1 g2 => ?_⟩
        have e := me_nil g2
        subst e
        exact nx _ _ _ (Or.inl rfl) (mi_inT _)
      · intro w0 w1 w2 w3
        refine ⟨by omega, fun h1 g1 g2 => ?_⟩
        have e := me_nil g2
        subst e
        exact nx _ _ _ (Or.inr rfl) oh
      · intro w0 w1 w2 w3
        refine ⟨by omega, fun h1 g1 g2 => ?_⟩
        have e := me_nil g2
        subst e
        exact nx _ _ _ (Or.inr rfl) (mi_inT _)
  refine mt_foA hS of ⟨by omega, fun h1 g1 g2 => ?_⟩
  have e := me_nil g2
  subst e
  exact lp (mi_a h1 130 zf.toNat).toNat 0 [] 0 0 1000 _ _ (by omega) rfl rfl (Or.inl rfl) rfl fm_in0 ⟨by decide, by decide⟩ (mi_inT _)
end FOL
