/-! the class's Sets: what may follow a part -/
def pf_v (hb : sm_H) (X : sp_X) (b : Int64) (u : Nat) : Int64 := sk_r X b ((cv_row hb 60 (mi_a hb 71 u)).map (cv_p hb))
def sj_Q (hb : sm_H) (X : sp_X) (h : sm_H) (zx : Int64) (row : List Int) (w : Option mi_V) (h' : sm_H) : Prop := w = none ∧ ab_Sh sx_sk h' ∧ ab_Fr si_W h h' ∧ (∀ u : Nat, (u : Int) ∈ row → mx_b h' 91 u = pf_v hb X zx u) ∧ ∀ u : Nat, (u : Int) ∉ row → mx_b h' 91 u = mx_b h 91 u
section SJI
variable {d : Nat} {hb : sm_H} {U : Int} {X : sp_X}
theorem sj_loop {za : Int} {zx : Int64} (hSb : ab_Sh sx_sk hb) (hU : cv_u hb U) (h01 : sp_01 70 X) (oa : mi_in za) : ∀ (N : Nat) (zp zn : Int) (q6 q7 q8 q9 qa qb : Option mi_V) (h : sm_H), (N : Int) = 60 - zn → 0 ≤ zn → (zp = -1 ∨ (zn ≤ zp ∧ zp < U)) → pt_all hb X h (cv_row hb N zp) → (∀ v, q6 = some v → mi_ok v) → (∀ v, q7 = some v → mi_ok v) → (∀ v, q8 = some v → mi_ok v) → (∀ v, q9 = some v → mi_ok v) → (∀ v, qa = some v → mi_ok v) → (∀ v, qb = some v → mi_ok v) → cv_eq hb h → ab_Sh sx_sk h → me_E (d + 5) 77 16 [some (.inr (.inr 78)), some (.inl za), some (.inr (.inl zx)), none, some (.inl zp), some (.inl zn), q6, q7, q8, q9, qa, qb] [] h (sj_Q hb X h zx (cv_row hb N zp)) := by
  have hU60 := hU.1
  have out : ∀ h : sm_H, ab_Sh sx_sk h → sj_Q hb X h zx [] none h := fun h hS => ⟨rfl, hS, ab_Fr.refl, fun u hu => absurd hu List.not_mem_nil, fun u _ => rfl⟩
  intro N
  induction N with
  | zero =>
    intro zp zn q6 q7 q8 q9 qa qb h hN n0 hp hpt o6 o7 o8 o9 oaa ob e hS
    have op : mi_in zp := ⟨by omega, by omega⟩
    have on : mi_in zn := ⟨by omega, by omega⟩
    refine mt_siB hS oa op on o6 o7 o8 o9 oaa ob ?_ ?_ ?_ ?_ ?_
    · intro c1 h1 g1 g2
      have e0 := me_nil g2
      subst e0
      exact out h1 hS
    · intro c1 c2; exfalso; omega
    · intro c1 c2; exfalso; omega
    · intro c1 c2; exfalso; omega
    · intro c1 c2; exfalso; omega
  | succ N ih =>
    intro zp zn q6 q7 q8 q9 qa qb h hN n0 hp hpt o6 o7 o8 o9 oaa ob e hS
    have op : mi_in zp := ⟨by omega, by omega⟩
    have on : mi_in zn := ⟨by omega, by omega⟩
    refine mt_siB hS oa op on o6 o7 o8 o9 oaa ob ?_ ?_ ?_ ?_ ?_
    · intro c1 h1 g1 g2
      have e0 := me_nil g2
      subst e0
      have er : cv_row hb (N + 1) zp = [] := by rw [cv_row_c, if_pos c1]
      rw [er]
      exact out h1 hS
    · intro c1 c2; exfalso; omega
    · intro c1 c2 c3; exfalso; omega
    · intro c1 c2 c3 c4; exfalso; omega
    · intro c1 c2 c3 c4
      have p01 : 0 ≤ zp ∧ zp < U := by omega
      obtain ⟨w1, w2, w3⟩ := hU.2 zp p01.1 p01.2
      have er : cv_row hb (N + 1) zp = zp :: cv_row hb N (mi_a hb 71 zp.toNat) := by rw [cv_row_c, if_neg c1]
      have ef : cv_row hb N (mi_a hb 71 zp.toNat) = cv_row hb 60 (mi_a hb 71 zp.toNat) := cv_row_fuel hU N 60 _ (by omega) (fun q => by omega)
      rw [er] at hpt ⊢
      have hpr : pt_all hb X h (cv_row hb N (mi_a hb 71 zp.toNat)) := fun u hu => hpt u (List.mem_cons_of_mem _ hu)
      obtain ⟨k1, k2⟩ := hpt zp List.mem_cons_self
      have ez : (zp.toNat : Int) = zp := Int.toNat_of_nonneg p01.1
      rw [ez] at k1 k2
      refine ⟨by omega, fun h1 g1 g2 => ?_⟩
      have e0 := me_nil g2
      subst e0
      have oq : mi_in (mi_a h1 71 zp.toNat) := mi_inT _
      have SF := me_startsFrom (d := d) (zf := mi_a hb 71 zp.toNat) (zx := zx) hSb hU h01 e hS (by omega) (by rw [← ef]; exact hpr)
      rw [← e.2.2.2.2.2.2.1] at SF
      refine ⟨_, SF, fun w h2 oww hq => ?_⟩
      obtain ⟨rfl, rfl⟩ := hq
      rw [e.2.2.2.2.2.2.1, ← ef]
      rw [e.2.2.2.2.2.2.1] at oq
      /- within the part's form -/
      have nx : ∀ (zw : Int64) (h3 : sm_H), zw = sk_i X zx (cv_p hb zp) ((cv_row hb N (mi_a hb 71 zp.toNat)).map (cv_p hb)) → ab_Sh sx_sk h3 → (∀ i, mx_b h3 91 i = if i = zp.toNat then sk_r X zx ((cv_row hb N (mi_a hb 71 zp.toNat)).map (cv_p hb)) else mx_b h2 91 i) → ab_Fr [(11648, 11649)] h2 h3 → ∃ Q1, me_E (d + 4) 71 0 (mi_entry 3 [.inr (.inr 60), .inl zp]) [] h3 Q1 ∧ ∀ w h4, (∀ v, w = some v → mi_ok v) → Q1 w h4 → me_E (d + 5) 77 107 [some (.inr (.inr 78)), some (.inl za), some (.inr (.inl zx)), none, some (.inl zp), some (.inl zn), some (.inl (mi_a hb 71 zp.toNat)), some (.inr (.inl (sk_r X zx ((cv_row hb N (mi_a hb 71 zp.toNat)).map (cv_p hb))))), none, some (.inr (.inl zw)), none, qb] (mi_back w []) h4 (sj_Q hb X h2 zx (zp :: cv_row hb N (mi_a hb 71 zp.toNat))) := by
        intro zw h3 ew s1 s0 s2
        refine ⟨_, me_gformIn (d := d + 3) s1 p01.1 (by omega), fun w h4 oww hq => ?_⟩
        obtain ⟨rfl, rfl⟩ := hq
        have e3 : cv_eq hb h4 := by
          have a := cv_eq_fr s2 hS (by rfl)
          exact ⟨a.1.trans e.1, a.2.1.trans e.2.1, a.2.2.1.trans e.2.2.1, a.2.2.2.1.trans e.2.2.2.1, a.2.2.2.2.1.trans e.2.2.2.2.1, a.2.2.2.2.2.1.trans e.2.2.2.2.2.1, a.2.2.2.2.2.2.1.trans e.2.2.2.2.2.2.1, a.2.2.2.2.2.2.2.trans e.2.2.2.2.2.2.2⟩
        have eg : gf_v h4 zp = (cv_p hb zp).1 := by
          show gf_v h4 zp = gf_v hb zp
          unfold gf_v
          rw [e3.2.2.2.2.1, e3.2.2.2.2.2.1]
        rw [eg]
        have g01 : (cv_p hb zp).1 = -1 ∨ (0 ≤ (cv_p hb zp).1 ∧ (cv_p hb zp).1 < 70) := w2
        have og : mi_in (cv_p hb zp).1 := ⟨by omega, by omega⟩
        have go : ∀ h5, ab_Sh sx_sk h5 → ab_Fr [(9999, 10000), (10368, 10369)] h4 h5 → me_E (d + 5) 77 16 [some (.inr (.inr 78)), some (.inl za), some (.inr (.inl zx)), none, some (.inl (mi_a hb 71 zp.toNat)), some (.inl (zn + 1)), some (.inl (mi_a hb 71 zp.toNat)), some (.inr (.inl (sk_r X zx ((cv_row hb N (mi_a hb 71 zp.toNat)).map (cv_p hb))))), none, some (.inr (.inl zw)), none, some (.inl (cv_p hb zp).1)] [] h5 (sj_Q hb X h2 zx (zp :: cv_row hb N (mi_a hb 71 zp.toNat))) := by
          intro h5 t1 t2
          have F5 : ab_Fr si_W h2 h5 := (s2.wide (fun c hc => ab_swr_ok (by decide) hc)).trans (t2.wide (fun c hc => ab_swr_ok (by decide) hc))
          have a := cv_eq_fr F5 hS (by rfl)
          have e5 : cv_eq hb h5 := ⟨a.1.trans e.1, a.2.1.trans e.2.1, a.2.2.1.trans e.2.2.1, a.2.2.2.1.trans e.2.2.2.1, a.2.2.2.2.1.trans e.2.2.2.2.1, a.2.2.2.2.2.1.trans e.2.2.2.2.2.1, a.2.2.2.2.2.2.1.trans e.2.2.2.2.2.2.1, a.2.2.2.2.2.2.2.trans e.2.2.2.2.2.2.2⟩
          have pt5 : pt_all hb X h5 (cv_row hb N (mi_a hb 71 zp.toNat)) := fun u hu => by
            obtain ⟨x1, x2⟩ := hpr u hu
            exact ⟨(me_a (k := 89) F5 hS rfl rfl).trans x1, (me_b (k := 90) F5 hS rfl rfl).trans x2⟩
          refine (ih (mi_a hb 71 zp.toNat) (zn + 1) _ _ _ _ _ _ h5 (by omega) (by omega) (by omega) pt5 (me_oi oq) (fun v q => by cases q; trivial) me_on (fun v q => by cases q; trivial) me_on (me_oi og) e5 t1).imp (fun w h' hq => ?_)
          obtain ⟨r1, r2, r3, r4, r5⟩ := hq
          have f91 : ∀ u, mx_b h5 91 u = mx_b h4 91 u := fun u => me_b (k := 91) t2 s1 rfl rfl
          refine ⟨r1, r2, F5.trans r3, fun u hu => ?_, fun u hu => ?_⟩
          · by_cases cm : (u : Int) ∈ cv_row hb N (mi_a hb 71 zp.toNat)
            · exact r4 u cm
            · rcases List.mem_cons.mp hu with hu | hu
              · have eu : u = zp.toNat := by omega
                rw [r5 u cm, f91, s0, if_pos eu, eu, ef]
                rfl
              · exact absurd hu cm
          · have nu : u ≠ zp.toNat := fun q => hu (by rw [q, ez]; exact List.mem_cons_self)
            rw [r5 u (fun q => hu (List.mem_cons_of_mem _ q)), f91, s0, if_neg nu]
        refine mt_siD s1 oa op on oq og ob ?_ ?_ ?_ ?_ ?_ ?_ ?_
        · intro q1
          refine ⟨by omega, fun h5 g1 g2 => ?_⟩
          have e0 := me_nil g2
          subst e0
          exact go h5 s1 ab_Fr.refl
        · intro q1 q2; exfalso; omega
        · intro q1 q2; exfalso; omega
        · intro q1 q2 q3; exfalso; omega
        · intro q1 q2 q3; exfalso; omega
        · intro q1 q2 q3 q4
          refine ⟨by omega, fun h5 g1 g2 => ?_⟩
          have e0 := me_nil g2
          subst e0
          exact go h5 s1 ab_Fr.refl
        · intro q1 q2 q3 q4
          exact ⟨by omega, fun h5 t1 t2 t3 t4 => go h5 t1 t4⟩
      have wk : ∀ {A B : Int64}, (cv_p hb zp).2.2.1 = (if mi_a h2 72 zp.toNat = 0 then (0 : Int) else if mi_a h2 72 zp.toNat = 5 then 1 else 2) := by
        intro _ _
        rw [e.2.2.2.2.2.2.2]
        all_goals rfl
      refine mt_siC hS oa op on oq o7 o8 o9 oaa ob ?_ ?_ ?_ ?_
      · intro q1; exfalso; omega
      · intro q1 q2; exfalso; omega
      · intro q1 q2 q3
        refine ⟨by omega, fun h3 s1 s2 s3 => nx _ h3 ?_ s1 s2 s3⟩
        unfold sk_i
        rw [wk (A := 0) (B := 0), if_neg]
        intro q
        by_cases c0 : mi_a h2 72 zp.toNat = 0
        · rw [if_pos c0] at q; exact absurd q (by decide)
        · rw [if_neg c0, if_neg q3] at q; exact absurd q (by decide)
      · intro q1 q2 q3
        refine ⟨by omega, fun h3 s1 s2 s3 => nx _ h3 ?_ s1 s2 s3⟩
        unfold sk_i
        rw [wk (A := 0) (B := 0), if_pos, k2]
        rw [if_neg (by omega), if_pos q3]
theorem me_spreadIntoF {h : sm_H} {za : Int} {zx : Int64} (hSb : ab_Sh sx_sk hb) (hU : cv_u hb U) (h01 : sp_01 70 X) (a0 : 0 ≤ za) (a1 : za < 66) (hp : mi_a hb 65 za.toNat = -1 ∨ (0 ≤ mi_a hb 65 za.toNat ∧ mi_a hb 65 za.toNat < U)) (hpt : pt_all hb X h (cv_l hb za)) (e : cv_eq hb h) (hS : ab_Sh sx_sk h) : me_E (d + 5) 77 0 [some (.inr (.inr 78)), some (.inl za), some (.inr (.inl zx)), none, none, none, none, none, none, none, none, none] [] h (sj_Q hb X h zx (cv_l hb za)) := by
  have oa : mi_in za := ⟨by omega, by omega⟩
  refine mt_siA hS oa ?_ ?_ ?_
  · intro c1; exfalso; omega
  · intro c1 c2; exfalso; omega
  · intro c1 c2
    refine ⟨by omega, fun h1 g1 g2 => ?_⟩
    have e0 := me_nil g2
    subst e0
    rw [e.2.2.1]
    exact sj_loop hSb hU h01 oa 60 _ 0 none none none none none none h1 (by decide) (by decide) hp hpt me_on me_on me_on me_on me_on me_on e hS
end SJI
