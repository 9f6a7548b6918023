/-! the reference's behind: what follows parts -/
/-- what is behind a part in its line -/
def ro_ok (ρ : Int → List Int) : List Int → Prop
  | [] => True
  | x :: r => r = ρ x ∧ ro_ok ρ r
def fw_v (g : wk_g) (ρ : Int → List Int) (X : sp_X) (b : Int64) (u : Int) : Int64 := sk_r X b ((ρ u).map (rv_p g))
theorem ro_drop {ρ : Int → List Int} : ∀ (N : Nat) (row : List Int), ro_ok ρ row → ro_ok ρ (row.drop N) := by
  intro N
  induction N with
  | zero => intro row h; exact h
  | succ N ih =>
    intro row h
    cases row with
    | nil => exact trivial
    | cons x r => exact ih r h.2
section BEF
variable {d : Nat} {h0 : sm_H} {za : Int} {zx : Int64} {X : sp_X} {Y : wk_Y} {ρ : Int → List Int}
theorem bex12f {row : List Int} (hro : ro_ok ρ row) (hL : wk_L (mi_a h0) Y) (hS0 : ab_Sh sx_sk h0) (oa : mi_in za) (hlen : (row.length : Int) ≤ 60) (hrow : ∀ x ∈ row, (0 ≤ x ∧ x < wk_u Y) ∧ rq_ok (rv_p (mi_a h0)) X h0 x) : ∀ (N : Nat) (zk : Int) (zg : Int64) (q7 q8 q9 q10 : Option mi_V) (h : sm_H), zk = (N : Int) - 1 → N ≤ row.length → zg = sk_r X zx ((row.drop N).map (rv_p (mi_a h0))) → ab_Sh sx_sk h → ab_Fr be_W h0 h → (∀ k : Nat, k < row.length → some (mi_a h 145 k) = row[k]?) → (∀ x ∈ row.drop N, mx_b h 137 x.toNat = fw_v (mi_a h0) ρ X zx x) → (∀ i, (∀ x ∈ row, x.toNat ≠ i) → mx_b h 137 i = mx_b h0 137 i) → (∀ v, q7 = some v → mi_ok v) → (∀ v, q8 = some v → mi_ok v) → (∀ v, q9 = some v → mi_ok v) → (∀ v, q10 = some v → mi_ok v) → me_E (d + 1) 200 12 [some (.inr (.inr 109)), some (.inl za), some (.inr (.inl zx)), none, some (.inr (.inl zg)), none, some (.inl zk), q7, q8, q9, q10] [] h (fun w h' => w = none ∧ ab_Sh sx_sk h' ∧ ab_Fr be_W h0 h' ∧ (∀ x ∈ row, mx_b h' 137 x.toNat = fw_v (mi_a h0) ρ X zx x) ∧ ∀ i, (∀ x ∈ row, x.toNat ≠ i) → mx_b h' 137 i = mx_b h0 137 i) := by
  have h60 := hL.1
  have h80 := hL.2.1
  intro N
  induction N with
  | zero =>
    intro zk zg q7 q8 q9 q10 h ek hN eg hS hF hr hW hc o7 o8 o9 o10
    refine mt_beC hS oa ⟨by omega, by omega⟩ o7 o8 o9 o10 ?_ ?_ ?_
    · intro c1 h1 g1 g2
      have e0 := me_nil g2
      subst e0
      exact ⟨rfl, hS, hF, hW, hc⟩
    · intro c1; exfalso; omega
    · intro c1; exfalso; omega
  | succ N ih =>
    intro zk zg q7 q8 q9 q10 h ek hN eg hS hF hr hW hc o7 o8 o9 o10
    have ek : zk = (N : Int) := by omega
    have ok : mi_in zk := ⟨by omega, by omega⟩
    have ekn : zk.toNat = N := by omega
    have hlt : N < row.length := by omega
    have hu1 : some (mi_a h 145 N) = row[N]? := hr N hlt
    obtain ⟨u, hu⟩ : ∃ u, u = mi_a h 145 N := ⟨_, rfl⟩
    rw [← hu, List.getElem?_eq_getElem hlt] at hu1
    have hu2 : row[N] = u := (Option.some.inj hu1).symm
    have hm : u ∈ row := by rw [← hu2]; exact List.getElem_mem hlt
    obtain ⟨⟨u0, u1⟩, k1, k2⟩ := hrow u hm
    have edrop : row.drop N = u :: row.drop (N + 1) := by rw [List.drop_eq_getElem_cons hlt, hu2]
    have erho : row.drop (N + 1) = ρ u := by
      have := ro_drop N row hro
      rw [edrop] at this
      exact this.1
    have e145 : mi_a h 145 zk.toNat = u := by rw [ekn]; exact hu.symm
    have e := rv_eq_fr hF hS0 (by rfl)
    have p131 : mi_a h 131 u.toNat = sp_v X (rv_p (mi_a h0) u) := (me_a (k := 131) hF hS0 rfl rfl).trans k1
    have p134 : mx_b h 134 u.toNat = sp_s X (rv_p (mi_a h0) u) := (me_b (k := 134) hF hS0 rfl rfl).trans k2
    obtain ⟨-, -, -, a6, a7, a8⟩ := hL.2.2.1 u u0 u1
    have ou : mi_in u := ⟨by omega, by omega⟩
    have w122 : (rv_p (mi_a h0) u).2.2.1 = (if 0 < mi_a h 122 u.toNat then (if mi_a h 122 u.toNat = 1 then (1 : Int) else 2) else 0) := by
      rw [e 122 (by decide)]
      rfl
    have nt : rv_t (mi_a h0) u = -1 ∨ (0 ≤ rv_t (mi_a h0) u ∧ rv_t (mi_a h0) u < 80) := by
      unfold rv_t
      by_cases c10 : mi_a h0 119 u.toNat = 10
      · rw [if_pos c10]
        have := a7 c10
        omega
      · rw [if_neg c10]
        by_cases c9 : mi_a h0 119 u.toNat = 9
        · rw [if_pos c9]
          obtain ⟨-, -, -, -, b5, b6, -⟩ := a6 c9
          have b5 : 0 ≤ mi_a h0 114 (mi_a h0 115 (mi_a h0 120 u.toNat).toNat).toNat := b5
          have b6 : mi_a h0 114 (mi_a h0 115 (mi_a h0 120 u.toNat).toNat).toNat < wk_f Y := b6
          omega
        · rw [if_neg c9]
          exact Or.inl rfl
    /- from 63 on -/
    have t63 : ∀ (zi : Int64) (h1 : sm_H), ab_Sh sx_sk h1 → (∀ i, mx_b h1 137 i = if i = u.toNat then zg else mx_b h 137 i) → ab_Fr [(17536, 17537)] h h1 → me_E (d + 1) 200 63 [some (.inr (.inr 109)), some (.inl za), some (.inr (.inl zx)), none, some (.inr (.inl zg)), none, some (.inl zk), some (.inl u), some (.inr (.inl zi)), none, q10] [] h1 (fun w h' => w = none ∧ ab_Sh sx_sk h' ∧ ab_Fr be_W h0 h' ∧ (∀ x ∈ row, mx_b h' 137 x.toNat = fw_v (mi_a h0) ρ X zx x) ∧ ∀ i, (∀ x ∈ row, x.toNat ≠ i) → mx_b h' 137 i = mx_b h0 137 i) := by
      intro zi h1 s1 s137 s2
      have F1 : ab_Fr be_W h0 h1 := hF.trans (s2.wide (fun c hc => ab_swr_ok (by decide) hc))
      have e1 := rv_eq_fr F1 hS0 (by rfl)
      have t120 : ∀ zn, zn = rv_t (mi_a h0) u → me_E (d + 1) 200 120 [some (.inr (.inr 109)), some (.inl za), some (.inr (.inl zx)), none, some (.inr (.inl zg)), none, some (.inl zk), some (.inl u), some (.inr (.inl zi)), none, some (.inl zn)] [] h1 (fun w h' => w = none ∧ ab_Sh sx_sk h' ∧ ab_Fr be_W h0 h' ∧ (∀ x ∈ row, mx_b h' 137 x.toNat = fw_v (mi_a h0) ρ X zx x) ∧ ∀ i, (∀ x ∈ row, x.toNat ≠ i) → mx_b h' 137 i = mx_b h0 137 i) := by
        intro zn en
        rw [← en] at nt
        have on : mi_in zn := ⟨by omega, by omega⟩
        have fin : ∀ h3, ab_Sh sx_sk h3 → ab_Fr [(13999, 14000), (17664, 17665)] h1 h3 → ∃ Q1, me_E (d + 0) 198 0 (mi_entry 2 [.inr (.inr 109), .inl u]) [] h3 Q1 ∧ ∀ w h4, (∀ v, w = some v → mi_ok v) → Q1 w h4 → me_E (d + 1) 200 183 [some (.inr (.inr 109)), some (.inl za), some (.inr (.inl zx)), none, some (.inr (.inl zg)), none, some (.inl zk), some (.inl u), some (.inr (.inl zi)), none, some (.inl zn)] (mi_back w []) h4 (fun w h' => w = none ∧ ab_Sh sx_sk h' ∧ ab_Fr be_W h0 h' ∧ (∀ x ∈ row, mx_b h' 137 x.toNat = fw_v (mi_a h0) ρ X zx x) ∧ ∀ i, (∀ x ∈ row, x.toNat ≠ i) → mx_b h' 137 i = mx_b h0 137 i) := by
          intro h3 t1 t2
          have F13 : ab_Fr be_W h h3 := (s2.wide (fun c hc => ab_swr_ok (by decide) hc)).trans (t2.wide (fun c hc => ab_swr_ok (by decide) hc))
          have F3 : ab_Fr be_W h0 h3 := hF.trans F13
          have r3 : ∀ k : Nat, k < row.length → some (mi_a h3 145 k) = row[k]? := fun k hk => by
            rw [me_a (k := 145) t2 s1 rfl rfl, me_a (k := 145) s2 hS rfl rfl]
            exact hr k hk
          have a131 : mi_a h3 131 u.toNat = sp_v X (rv_p (mi_a h0) u) := (me_a (k := 131) F13 hS rfl rfl).trans p131
          have a134 : mx_b h3 134 u.toNat = sp_s X (rv_p (mi_a h0) u) := (me_b (k := 134) F13 hS rfl rfl).trans p134
          have a122 : mi_a h3 122 u.toNat = mi_a h 122 u.toNat := me_a (k := 122) F13 hS rfl rfl
          have v137 : ∀ i, mx_b h3 137 i = if i = u.toNat then zg else mx_b h 137 i := fun i => (me_b (k := 137) t2 s1 rfl rfl).trans (s137 i)
          have W3 : ∀ x ∈ row.drop N, mx_b h3 137 x.toNat = fw_v (mi_a h0) ρ X zx x := by
            rw [edrop]
            intro x hx
            rw [v137]
            by_cases c : x.toNat = u.toNat
            · have x0 : 0 ≤ x := by
                rcases List.mem_cons.mp hx with q | q
                · omega
                · exact (hrow x (List.mem_of_mem_drop q)).1.1
              have ex : x = u := by omega
              rw [if_pos c, eg, erho, ex]
              rfl
            · rw [if_neg c]
              rcases List.mem_cons.mp hx with q | q
              · rw [q] at c; exact absurd rfl c
              · exact hW x q
          have C3 : ∀ i, (∀ x ∈ row, x.toNat ≠ i) → mx_b h3 137 i = mx_b h0 137 i := fun i hi => by
            rw [v137, if_neg (fun q => hi u hm q.symm)]
            exact hc i hi
          refine ⟨_, me_isVoidx (d := d + 0) t1 u0 (by omega), fun w h4 oww hq => ?_⟩
          obtain ⟨rfl, z, rfl, z01, hz⟩ := hq
          have ie : z = 1 ↔ sp_e X (rv_p (mi_a h0) u) := by
            rw [hz, a131, a122]
            show _ ↔ (rv_p (mi_a h0) u).2.2.1 ≠ 0 ∨ _
            rw [w122]
            by_cases c : 0 < mi_a h 122 u.toNat
            · rw [if_pos c]
              exact ⟨fun _ => Or.inl (by split <;> decide), fun _ => Or.inl c⟩
            · rw [if_neg c]
              exact ⟨fun q => q.elim (fun q => absurd q c) Or.inr, fun q => q.elim (fun q => absurd rfl q) Or.inr⟩
          refine mt_beG t1 oa ok ou on ⟨by omega, by omega⟩ ?_ ?_
          · intro b0
            refine ⟨by omega, fun h5 g1 g2 => ?_⟩
            have e0 := me_nil g2
            subst e0
            refine ih (zk + (-1)) _ _ _ _ _ h5 (by omega) (by omega) ?_ t1 F3 r3 W3 C3 (me_oi ou) (fun v q => by cases q; trivial) me_on (me_oi on)
            rw [a134, edrop, List.map_cons]
            rw [sk_r_c]
            rw [if_neg (fun q => by have := ie.mpr q; omega)]
          · intro b0
            refine ⟨by omega, fun h5 g1 g2 => ?_⟩
            have e0 := me_nil g2
            subst e0
            refine ih (zk + (-1)) _ _ _ _ _ h5 (by omega) (by omega) ?_ t1 F3 r3 W3 C3 (me_oi ou) (fun v q => by cases q; trivial) me_on (me_oi on)
            rw [a134, edrop, List.map_cons, eg, or_cm]
            show _ = sk_r X zx (rv_p (mi_a h0) u :: (row.drop (N + 1)).map (rv_p (mi_a h0)))
            rw [sk_r, if_pos (ie.mp (by omega))]
        have t160 : ∀ h2, ab_Sh sx_sk h2 → ab_Fr [(13999, 14000)] h1 h2 → me_E (d + 1) 200 160 [some (.inr (.inr 109)), some (.inl za), some (.inr (.inl zx)), none, some (.inr (.inl zg)), none, some (.inl zk), some (.inl u), some (.inr (.inl zi)), none, some (.inl zn)] [] h2 (fun w h' => w = none ∧ ab_Sh sx_sk h' ∧ ab_Fr be_W h0 h' ∧ (∀ x ∈ row, mx_b h' 137 x.toNat = fw_v (mi_a h0) ρ X zx x) ∧ ∀ i, (∀ x ∈ row, x.toNat ≠ i) → mx_b h' 137 i = mx_b h0 137 i) := by
          intro h2 t1 t2
          refine mt_beF t1 oa ok ou on ?_ ?_
          · intro b0 h3 g1 g2
            have e0 := me_nil g2
            subst e0
            exact fin h3 t1 (t2.wide (fun c hc => ab_swr_ok (by decide) hc))
          · intro b0
            exact ⟨by omega, fun h3 v1 v2 v3 => fin h3 v1 ((t2.wide (fun c hc => ab_swr_ok (by decide) hc)).trans (v3.wide (fun c hc => ab_swr_ok (by decide) hc)))⟩
        refine mt_beE s1 oa ok ou on ?_ ?_ ?_ ?_
        · intro b b0 h2 t1 t2 t3
          exact t160 h2 t1 t3
        · intro b b0 b1 h2 t1 t2 t3
          exact t160 h2 t1 t3
        · intro b b0 b1 b2
          exact ⟨by omega, fun h2 t1 t2 t3 => t160 h2 t1 t3⟩
        · intro b b0 b1 b2
          exact ⟨by omega, fun h2 t1 t2 t3 => t160 h2 t1 t3⟩
      have r119 : mi_a h1 119 u.toNat = mi_a h0 119 u.toNat := by rw [e1 119 (by decide)]
      have r120 : mi_a h1 120 = mi_a h0 120 := e1 120 (by decide)
      have r115 : mi_a h1 115 = mi_a h0 115 := e1 115 (by decide)
      have r114 : mi_a h1 114 = mi_a h0 114 := e1 114 (by decide)
      refine mt_beD s1 oa ok ou o10 ?_ ?_ ?_
      · intro b1 b2
        refine ⟨by omega, fun h2 g1 g2 => ?_⟩
        have e0 := me_nil g2
        subst e0
        refine t120 _ ?_
        unfold rv_t
        rw [r119] at b1 b2
        rw [if_neg b1, if_neg b2]
      · intro b1 b2
        rw [r119] at b1 b2
        obtain ⟨d1, d2, d3, d4, -⟩ := a6 b2
        rw [r120, r115, r114]
        refine ⟨by omega, fun h2 g1 g2 => ?_⟩
        have e0 := me_nil g2
        subst e0
        refine t120 _ ?_
        unfold rv_t
        rw [if_neg b1, if_pos b2]
      · intro b1
        rw [r119] at b1
        rw [r120]
        refine ⟨by omega, fun h2 g1 g2 => ?_⟩
        have e0 := me_nil g2
        subst e0
        refine t120 _ ?_
        unfold rv_t
        rw [if_pos b1]
    refine mt_beC hS oa ok o7 o8 o9 o10 ?_ ?_ ?_
    · intro c1; exfalso; omega
    · intro c1 c2
      rw [e145] at c2 ⊢
      exact ⟨by omega, fun h1 s1 s2 s3 => t63 _ h1 s1 s2 s3⟩
    · intro c1 c2
      rw [e145] at c2 ⊢
      exact ⟨by omega, fun h1 s1 s2 s3 => t63 _ h1 s1 s2 s3⟩
def rr_l (g : wk_g) (a : Int) : List Int := wk_row g 61 (g 126 a.toNat)
def be_F (ρ : Int → List Int) (X : sp_X) (h : sm_H) (zx : Int64) (row : List Int) (w : Option mi_V) (h' : sm_H) : Prop := w = none ∧ ab_Sh sx_sk h' ∧ ab_Fr be_W h h' ∧ (∀ x ∈ row, mx_b h' 137 x.toNat = fw_v (mi_a h) ρ X zx x) ∧ ∀ i, (∀ x ∈ row, x.toNat ≠ i) → mx_b h' 137 i = mx_b h 137 i
theorem me_behindf (hro : ro_ok ρ (rr_l (mi_a h0) za)) (hL : wk_L (mi_a h0) Y) (hS0 : ab_Sh sx_sk h0) (a0 : 0 ≤ za) (a1 : za < 80) (hu : mi_a h0 126 za.toNat < 0 ∨ mi_a h0 126 za.toNat < wk_u Y) (hp : ∀ u, 0 ≤ u → u < wk_u Y → rq_ok (rv_p (mi_a h0)) X h0 u) : me_E (d + 1) 200 0 [some (.inr (.inr 109)), some (.inl za), some (.inr (.inl zx)), none, none, none, none, none, none, none, none] [] h0 (be_F ρ X h0 zx (rr_l (mi_a h0) za)) := by
  have oa : mi_in za := ⟨by omega, by omega⟩
  have hC := wk_L_C hL
  refine mt_beA hS0 oa ?_
  intro h1 g1 g2
  have e := me_nil g2
  subst e
  refine ⟨_, me_line g1 hC a0 a1 hu, fun w h2 ow hq => ?_⟩
  obtain ⟨q1, q2, rfl, q4, q5⟩ := hq
  refine mt_beB q1 oa ⟨by omega, by omega⟩ ⟨by omega, fun h3 r1 r2 => ?_⟩
  have e := me_nil r2
  subst e
  have q2' : ab_Fr be_W h1 h3 := q2.wide (fun c hc => ab_swr_ok (by decide) hc)
  exact bex12f (d := d) (za := za) (zx := zx) (X := X) (row := wk_row (mi_a h1) 61 (mi_a h1 126 za.toNat)) hro hL hS0 oa q4 (fun x hx => by
    obtain ⟨k, hk⟩ := List.getElem?_of_mem hx
    have := q5 k x hk
    exact ⟨⟨this.2.1, this.2.2⟩, hp x this.2.1 this.2.2⟩) (wk_row (mi_a h1) 61 (mi_a h1 126 za.toNat)).length _ zx none none none none h3 rfl (Nat.le_refl _) (by rw [List.drop_length]; rfl) r1 q2' (fun k hk => by
    have := q5 k _ (List.getElem?_eq_getElem hk)
    rw [List.getElem?_eq_getElem hk, this.1]) (fun x hx => by rw [List.drop_length] at hx; cases hx) (fun i _ => me_b (k := 137) q2 hS0 rfl rfl) me_on me_on me_on me_on
end BEF
