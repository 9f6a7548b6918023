/-! the class's Sets: spreadFollows, work -/
theorem cv_eq.trans {h h1 h2 : sm_H} (e : cv_eq h h1) (a : cv_eq h1 h2) : cv_eq h h2 := ⟨a.1.trans e.1, a.2.1.trans e.2.1, a.2.2.1.trans e.2.2.1, a.2.2.2.1.trans e.2.2.2.1, a.2.2.2.2.1.trans e.2.2.2.2.1, a.2.2.2.2.2.1.trans e.2.2.2.2.2.1, a.2.2.2.2.2.2.1.trans e.2.2.2.2.2.2.1, a.2.2.2.2.2.2.2.trans e.2.2.2.2.2.2.2⟩
def sv_Q (hb : sm_H) (X : sp_X) (W0 : sp_F) (h : sm_H) (w : Option mi_V) (h' : sm_H) : Prop := w = none ∧ ab_Sh sx_sk h' ∧ ab_Fr si_W h h' ∧ ∃ j, mx_b h' 81 = sk_k X (GC hb) 70 W0 j ∧ sw_sol X 70 (GC hb) (sk_k X (GC hb) 70 W0 j)
section SVF
variable {d : Nat} {hb h0 : sm_H} {U : Int} {X : sp_X} {W0 : sp_F}
/-- what does not change here -/
def sv_B (hb : sm_H) (X : sp_X) (h0 h : sm_H) : Prop := ab_Sh sx_sk h ∧ ab_Fr si_W h0 h ∧ cv_eq hb h ∧ ∀ F : Nat, F < 70 → ∀ u : Nat, cv_of hb F u → pt_ok (cv_p hb) X h u
theorem sv_B_fr {h h' : sm_H} (hB : sv_B hb X h0 h) (hS : ab_Sh sx_sk h') (hF : ab_Fr si_W h h') : sv_B hb X h0 h' := by
  obtain ⟨b1, b2, b3, b4⟩ := hB
  refine ⟨hS, b2.trans hF, b3.trans (cv_eq_fr hF b1 rfl), fun F hF' u hu => ?_⟩
  obtain ⟨x1, x2⟩ := b4 F hF' u hu
  exact ⟨(me_a (k := 89) hF b1 rfl rfl).trans x1, (me_b (k := 90) hF b1 rfl rfl).trans x2⟩
/-- the alternatives of form zf -/
theorem sv_alts {zn : Int} {F : Nat} {Q : Option mi_V → sm_H → Prop} {Wk WN : sp_F} (hSb : ab_Sh sx_sk hb) (hF : cv_F hb U) (h01 : sp_01 70 X) (hF70 : F < 70) (on : mi_in zn) (K : ∀ h zf za zk, zf = (F : Int) + 1 → mi_in za → mi_in zk → sv_B hb X h0 h → sk_p X (GC hb) (69 - F) (F + 1) (mx_b h 81) = WN → (mi_f h 9999 = 0 → mx_b h 81 = Wk) → me_E (d + 6) 76 27 [some (.inr (.inr 78)), some (.inl zn), some (.inl zf), some (.inl za), some (.inl zk)] [] h Q) : ∀ (m : Nat) (za zk : Int) (h : sm_H), (m : Int) + zk = cv_n hb F → 0 ≤ zk → mi_in za → cv_al hb U m za → (∀ a ∈ cv_as hb m za, ∀ u ∈ cv_l hb a, cv_of hb F u) → sv_B hb X h0 h → sk_p X (GC hb) (69 - F) (F + 1) (sk_f X F ((cv_as hb m za).map (fun a => (cv_l hb a).map (cv_p hb))) (mx_b h 81)) = WN → (mi_f h 9999 = 0 → mx_b h 81 = Wk) → me_E (d + 6) 76 48 [some (.inr (.inr 78)), some (.inl zn), some (.inl (F : Int)), some (.inl za), some (.inl zk)] [] h Q := by
  have cn : cv_n hb F ≤ 6 := by unfold cv_n; omega
  have of : mi_in (F : Int) := ⟨by omega, by omega⟩
  intro m
  induction m with
  | zero =>
    intro za zk h hN k0 oa hal hof hB hW hc
    have ok : mi_in zk := ⟨by omega, by omega⟩
    obtain ⟨b1, b2, b3, b4⟩ := id hB
    have e64 : mi_a h 64 ((F : Int)).toNat = mi_a hb 64 F := by rw [b3.2.1]; rfl
    refine mt_svD b1 on of oa ok ?_ ?_ ?_ ?_ ?_ ?_ ?_ ?_ ?_
    · intro c1; exfalso; omega
    · intro c1; exfalso; omega
    · intro c1; exfalso; omega
    · intro c1 c2; exfalso; omega
    · intro c1 c2; exfalso; omega
    · intro c1 c2; exfalso; omega
    · intro c1 c2 c3
      refine ⟨by omega, fun h1 g1 g2 => ?_⟩
      have e0 := me_nil g2
      subst e0
      exact K h1 _ _ _ rfl oa ok hB hW hc
    · intro c1 c2 c3 c4
      refine ⟨by omega, fun h1 g1 g2 => ?_⟩
      have e0 := me_nil g2
      subst e0
      exact K h1 _ _ _ rfl oa ok hB hW hc
    · intro c1 c2 c3 c4
      exfalso
      rw [e64] at c3
      unfold cv_n at hN
      omega
  | succ m ih =>
    intro za zk h hN k0 oa hal hof hB hW hc
    have ok : mi_in zk := ⟨by omega, by omega⟩
    obtain ⟨b1, b2, b3, b4⟩ := id hB
    obtain ⟨⟨a0, a1⟩, hp, hal'⟩ := hal
    have e64 : mi_a h 64 ((F : Int)).toNat = mi_a hb 64 F := by rw [b3.2.1]; rfl
    have lt : zk < mi_a hb 64 F := by unfold cv_n at hN; omega
    refine mt_svD b1 on of oa ok ?_ ?_ ?_ ?_ ?_ ?_ ?_ ?_ ?_
    · intro c1; exfalso; omega
    · intro c1; exfalso; omega
    · intro c1; exfalso; omega
    · intro c1 c2; exfalso; omega
    · intro c1 c2; exfalso; omega
    · intro c1 c2; exfalso; omega
    · intro c1 c2 c3
      exfalso
      rw [e64] at c3
      omega
    · intro c1 c2 c3 c4; exfalso; omega
    · intro c1 c2 c3 c4
      refine ⟨by omega, fun h1 g1 g2 => ?_⟩
      have e0 := me_nil g2
      subst e0
      refine ⟨_, me_spreadInto (d := d) (hb := hb) (X := X) (U := U) (zx := mx_b h1 81 F) hSb hF.1 h01 a0 a1 hp (fun u hu => ?_) b3 b1, fun w h2 oww hq => ?_⟩
      · have ho := hof za List.mem_cons_self u hu
        have u0 := (cv_of_in hF hF70 ho).1
        refine b4 F hF70 u.toNat ?_
        rw [Int.toNat_of_nonneg u0]
        exact ho
      · obtain ⟨rfl, r2, r3, r4, r5⟩ := hq
        have B2 := sv_B_fr hB r2 r3
        refine mt_svE r2 on of oa ok ?_ ?_ ?_
        · intro q1; exfalso; omega
        · intro q1 q2; exfalso; omega
        · intro q1 q2
          refine ⟨by omega, fun h3 g1 g2 => ?_⟩
          have e0 := me_nil g2
          subst e0
          rw [B2.2.2.1.2.2.2.1]
          refine ih _ (zk + 1) h3 (by omega) (by omega) (mi_inT _) hal' (fun a ha u hu => hof a (List.mem_cons_of_mem _ ha) u hu) B2 ?_ (fun q => ?_)
          · rw [r4]
            exact hW
          · obtain ⟨x1, x2⟩ := r5 q
            exact x2.trans (hc x1)
theorem sv_forms {zn : Int} {Q : Option mi_V → sm_H → Prop} {Wk WN : sp_F} (hSb : ab_Sh sx_sk hb) (hF : cv_F hb U) (h01 : sp_01 70 X) (on : mi_in zn) (on1 : mi_in (zn + 1)) (K : ∀ h q2 q3 q4, (∀ v, q2 = some v → mi_ok v) → (∀ v, q3 = some v → mi_ok v) → (∀ v, q4 = some v → mi_ok v) → sv_B hb X h0 h → mx_b h 81 = WN → (mi_f h 9999 = 0 → mx_b h 81 = Wk) → me_E (d + 6) 76 7 [some (.inr (.inr 78)), some (.inl (zn + 1)), q2, q3, q4] [] h Q) : ∀ (c F : Nat) (q3 q4 : Option mi_V) (h : sm_H), F + c = 70 → (∀ v, q3 = some v → mi_ok v) → (∀ v, q4 = some v → mi_ok v) → sv_B hb X h0 h → sk_p X (GC hb) c F (mx_b h 81) = WN → (mi_f h 9999 = 0 → mx_b h 81 = Wk) → me_E (d + 6) 76 27 [some (.inr (.inr 78)), some (.inl zn), some (.inl (F : Int)), q3, q4] [] h Q := by
  intro c
  induction c with
  | zero =>
    intro F q3 q4 h hc o3 o4 hB hW hk
    have of : mi_in (F : Int) := ⟨by omega, by omega⟩
    refine mt_svC hB.1 on of o3 o4 ?_ ?_ ?_
    · intro c1
      refine ⟨on1, fun h1 g1 g2 => ?_⟩
      have e0 := me_nil g2
      subst e0
      exact K h1 _ _ _ (me_oi of) o3 o4 hB hW hk
    · intro c1 c2; exfalso; omega
    · intro c1 c2; exfalso; omega
  | succ c ih =>
    intro F q3 q4 h hc o3 o4 hB hW hk
    have of : mi_in (F : Int) := ⟨by omega, by omega⟩
    refine mt_svC hB.1 on of o3 o4 ?_ ?_ ?_
    · intro c1; exfalso; omega
    · intro c1 c2; exfalso; omega
    · intro c1 c2
      refine ⟨by omega, fun h1 g1 g2 => ?_⟩
      have e0 := me_nil g2
      subst e0
      have e63 : mi_a h1 63 ((F : Int)).toNat = mi_a hb 63 F := by rw [hB.2.2.1.1]; rfl
      rw [e63]
      have ec : 69 - F = c := by omega
      refine sv_alts (F := F) (WN := WN) (Wk := Wk) hSb hF h01 (by omega) on (fun h2 zf za zk ez oa ok hB2 hW2 hk2 => ?_) (cv_n hb F) _ 0 h1 (by omega) (by decide) (mi_inT _) (hF.2 F (by omega)) (fun a ha u hu => ⟨a, ha, hu⟩) hB (by rw [ec]; exact hW) hk
      rw [ez]
      rw [ec] at hW2
      exact ih (F + 1) _ _ h2 (by omega) (me_oi oa) (me_oi ok) hB2 hW2 hk2
theorem sv_loop (hSb : ab_Sh sx_sk hb) (hF : cv_F hb U) (h01 : sp_01 70 X) : ∀ (N k : Nat) (q2 q3 q4 : Option mi_V) (h : sm_H), 100000 - k < N → k ≤ 100000 → (∀ v, q2 = some v → mi_ok v) → (∀ v, q3 = some v → mi_ok v) → (∀ v, q4 = some v → mi_ok v) → sv_B hb X h0 h → mx_b h 81 = sk_k X (GC hb) 70 W0 k → (k = 0 → mi_f h 9999 ≠ 0) → (∀ j, k = j + 1 → mi_f h 9999 = 0 → sk_k X (GC hb) 70 W0 (j + 1) = sk_k X (GC hb) 70 W0 j) → me_E (d + 6) 76 7 [some (.inr (.inr 78)), some (.inl (k : Int)), q2, q3, q4] [] h (sv_Q hb X W0 h0) := by
  intro N
  induction N with
  | zero => intro k q2 q3 q4 h hN; exfalso; omega
  | succ N ih =>
    intro k q2 q3 q4 h hN hk o2 o3 o4 hB hW hc0 hc1
    have on : mi_in (k : Int) := ⟨by omega, by omega⟩
    refine mt_svB hB.1 on o2 o3 o4 ?_ ?_ ?_
    · intro b c1 h1 g1 g2
      have e0 := me_nil g2
      subst e0
      cases k with
      | zero => exact absurd c1 (hc0 rfl)
      | succ j =>
        have E := hc1 j rfl c1
        exact ⟨rfl, hB.1, hB.2.1, j, hW.trans E, sk_sol (fun i hi => congrFun E i)⟩
    · intro b c1 c2 h1 g1 g2
      have e0 := me_nil g2
      subst e0
      have hk0 : k = 100000 := by omega
      exact ⟨rfl, hB.1, hB.2.1, k, hW, sk_sol (sk_k_stop (by omega))⟩
    · intro b c1 c2 h1 s1 s2 s3
      have F1 : ab_Fr si_W h h1 := s3.wide (fun c hc => ab_swr_ok (by decide) hc)
      have B1 := sv_B_fr hB s1 F1
      have e81 : mx_b h1 81 = mx_b h 81 := funext fun i => me_b (k := 81) s3 hB.1 rfl rfl
      refine sv_forms (WN := sk_k X (GC hb) 70 W0 (k + 1)) (Wk := sk_k X (GC hb) 70 W0 k) hSb hF h01 on ⟨by omega, by omega⟩ (fun h2 q2 q3 q4 o2 o3 o4 hB2 hW2 hk2 => ?_) 70 0 _ _ h1 rfl o3 o4 B1 ?_ (fun _ => by rw [e81]; exact hW)
      · have ek : (k : Int) + 1 = ((k + 1 : Nat) : Int) := by omega
        rw [ek]
        refine ih (k + 1) _ _ _ h2 (by omega) (by omega) o2 o3 o4 hB2 hW2 (fun q => by omega) (fun j ej q => ?_)
        have : j = k := by omega
        subst this
        exact hW2.symm.trans (hk2 q)
      · rw [e81, hW]
        rfl
theorem me_spreadFollows {h : sm_H} (hSb : ab_Sh sx_sk hb) (hF : cv_F hb U) (h01 : sp_01 70 X) (hS : ab_Sh sx_sk h) (e : cv_eq hb h) (hpt : ∀ F : Nat, F < 70 → ∀ u : Nat, cv_of hb F u → pt_ok (cv_p hb) X h u) : me_E (d + 6) 76 0 [some (.inr (.inr 78)), none, none, none, none] [] h (sv_Q hb X (mx_b h 81) h) := by
  refine mt_svA hS (fun h1 s1 s2 s3 => ?_)
  have F1 : ab_Fr si_W h h1 := s3.wide (fun c hc => ab_swr_ok (by decide) hc)
  exact sv_loop hSb hF h01 100001 0 none none none h1 (by decide) (by decide) me_on me_on me_on (sv_B_fr ⟨hS, ab_Fr.refl, e, hpt⟩ s1 F1) (funext fun i => me_b (k := 81) s3 hS rfl rfl) (fun _ => by omega) (fun j ej => by omega)
end SVF
def wk_W : List (Nat × Nat) := [(9999, 11777)]
/-- the sets are worked out -/
def wk_Qc (hb : sm_H) (w : Option mi_V) (h' : sm_H) : Prop := w = none ∧ ab_Sh sx_sk h' ∧ ab_Fr wk_W hb h' ∧ ∃ (j k : Nat) (W0 : sp_F), sp_eq 70 (cX h') (sps_k (GC hb) 70 j) ∧ sp_fix 70 (GC hb) (sps_k (GC hb) 70 j) ∧ (∀ i : Nat, i < 70 → W0 i = if i = 0 then 1 else 0) ∧ (∀ i : Nat, mx_b h' 81 i = sk_k (sps_k (GC hb) 70 j) (GC hb) 70 W0 k i) ∧ sw_sol (sps_k (GC hb) 70 j) 70 (GC hb) (sk_k (sps_k (GC hb) 70 j) (GC hb) 70 W0 k)
section WRK
variable {d : Nat} {hb : sm_H} {U : Int}
theorem me_setsRest {h : sm_H} (hS : ab_Sh sx_sk h) : (me_E (d + 6) 79 0 (mi_entry 6 [.inr (.inr 78)]) [] h (fun w h' => w = none ∧ ab_Sh sx_sk h' ∧ ab_Fr [(11264, 11265)] h h')) ∧ me_E (d + 6) 80 0 (mi_entry 4 [.inr (.inr 78)]) [] h (fun w h' => w = none ∧ ab_Sh sx_sk h' ∧ ab_Fr [(11776, 11777)] h h') := by
  refine ⟨?_, ?_⟩
  · have := me_abs (as := [.inr (.inr 78)]) xo_124 rfl hS ⟨rfl, trivial⟩ (fun e he => by cases he) (by decide)
    refine (me_E.deep (d' := d + 6) this (by show 1 ≤ d + 6; omega)).imp (fun w h' hq => ?_)
    obtain ⟨q1, q2, p, hp, q3, -⟩ := hq
    refine ⟨?_, q1, q2⟩
    exact q3
  · have := me_abs (as := [.inr (.inr 78)]) xo_128 rfl hS ⟨rfl, trivial⟩ (fun e he => by cases he) (by decide)
    refine (me_E.deep (d' := d + 6) this (by show 2 ≤ d + 6; omega)).imp (fun w h' hq => ?_)
    obtain ⟨q1, q2, p, hp, q3, -⟩ := hq
    refine ⟨?_, q1, q2⟩
    exact q3
theorem wk_loop (hSb : ab_Sh sx_sk hb) (hF : cv_F hb U) : ∀ (N : Nat) (zf : Int) (h : sm_H), 70 - zf < N → 0 ≤ zf → zf ≤ 70 → ab_Sh sx_sk h → ab_Fr [(10112, 10625)] hb h → (∀ i : Nat, (i : Int) < zf → mi_a h 79 i = 0 ∧ mx_b h 80 i = 0 ∧ mi_a h 82 i = 1000 ∧ mx_b h 81 i = if i = 0 then 1 else 0) → me_E (d + 7) 65 2 [some (.inr (.inr 78)), some (.inl zf)] [] h (wk_Qc hb) := by
  intro N
  induction N with
  | zero => intro zf h hN z0 z1; exfalso; omega
  | succ N ih =>
    intro zf h hN z0 z1 hS hFr hv
    have of : mi_in zf := ⟨by omega, by omega⟩
    refine mt_wkB hS of ?_ ?_ ?_
    · intro c1 h1 g1 g2
      have e0 := me_nil g2
      subst e0
      have e : cv_eq hb h1 := cv_eq_fr hFr hSb rfl
      have hF1 := e.F hF
      have h70 : sp_eq 70 (cX h1) sp_bot := fun F hF' => by
        obtain ⟨x1, x2, x3, -⟩ := hv F (by omega)
        exact ⟨x1, x2, x3⟩
      refine ⟨_, me_spreadStarts (d := d) (hb := h1) hS hF1 hS ab_Fr.refl h70, fun w h2 oww hq => ?_⟩
      obtain ⟨rfl, s1, s2, j, s3, s4, s5⟩ := hq
      rw [e.g] at s3 s4 s5
      rw [e.p] at s5
      have F2 : ab_Fr wk_W hb h2 := (hFr.wide (fun c hc => ab_swr_ok (by decide) hc)).trans (s2.wide (fun c hc => ab_swr_ok (by decide) hc))
      have e2 : cv_eq hb h2 := cv_eq_fr F2 hSb rfl
      refine mt_wkC s1 of (fun h3 g1 g2 => ?_)
      have e0 := me_nil g2
      subst e0
      refine ⟨_, me_spreadFollows (d := d) (hb := hb) (X := sps_k (GC hb) 70 j) hSb hF (sps_k_01 j) s1 e2 (fun F hF' u hu => s5 F hF' u (e.of.mpr hu)), fun w h4 oww hq => ?_⟩
      obtain ⟨rfl, t1, t2, k, t3, t4⟩ := hq
      have F4 : ab_Fr wk_W hb h4 := F2.trans (t2.wide (fun c hc => ab_swr_ok (by decide) hc))
      have eX4 : cX h4 = cX h3 := cX_fr t2 s1 rfl
      refine mt_wkD t1 of (fun h5 g1 g2 => ?_)
      have e0 := me_nil g2
      subst e0
      refine ⟨_, (me_setsRest (d := d) t1).1, fun w h6 oww hq => ?_⟩
      obtain ⟨rfl, u1, u2⟩ := hq
      refine mt_wkE u1 of (fun h7 g1 g2 => ?_)
      have e0 := me_nil g2
      subst e0
      refine ⟨_, (me_setsRest (d := d) u1).2, fun w h8 oww hq => ?_⟩
      obtain ⟨rfl, v1, v2⟩ := hq
      refine mt_wkF v1 of (fun h9 g1 g2 => ?_)
      have e0 := me_nil g2
      subst e0
      have F9 : ab_Fr wk_W hb h9 := (F4.trans (u2.wide (fun c hc => ab_swr_ok (by decide) hc))).trans (v2.wide (fun c hc => ab_swr_ok (by decide) hc))
      have eX9 : cX h9 = cX h3 := ((cX_fr v2 u1 rfl).trans (cX_fr u2 t1 rfl)).trans eX4
      refine ⟨rfl, v1, F9, j, k, mx_b h3 81, by rw [eX9]; exact s3, s4, fun i hi => ?_, fun i => ?_, t4⟩
      · rw [me_b (k := 81) s2 hS rfl rfl]
        exact (hv i (by omega)).2.2.2
      · rw [me_b (k := 81) v2 u1 rfl rfl, me_b (k := 81) u2 t1 rfl rfl, t3]
    · intro c1 c2; exfalso; omega
    · intro c1 c2
      refine ⟨by omega, fun h1 s1 s2 s3 s4 => ?_⟩
      have T43 : ∀ h2, ab_Sh sx_sk h2 → (∀ i, mx_b h2 81 i = if i = zf.toNat then (if zf = 0 then 1 else 0) else mx_b h1 81 i) → ab_Fr [(10368, 10369)] h1 h2 → me_E (d + 7) 65 43 [some (.inr (.inr 78)), some (.inl zf)] [] h2 (wk_Qc hb) := by
        intro h2 t1 t2 t3
        refine mt_wkB3 t1 of ?_ ?_ ?_
        · intro k1; exfalso; omega
        · intro k1 k2; exfalso; omega
        · intro k1 k2
          refine ⟨by omega, fun h3 u1 u2 u3 u4 => ih (zf + 1) h3 (by omega) (by omega) (by omega) u1 (((hFr.trans (s4.wide (fun c hc => ab_swr_ok (by decide) hc))).trans (t3.wide (fun c hc => ab_swr_ok (by decide) hc))).trans (u4.wide (fun c hc => ab_swr_ok (by decide) hc))) (fun i hi => ?_)⟩
          have a79 : mi_a h3 79 i = mi_a h1 79 i := (me_a (k := 79) u4 t1 rfl rfl).trans (me_a (k := 79) t3 s1 rfl rfl)
          have a80 : mx_b h3 80 i = mx_b h1 80 i := (me_b (k := 80) u4 t1 rfl rfl).trans (me_b (k := 80) t3 s1 rfl rfl)
          have a81 : mx_b h3 81 i = mx_b h2 81 i := me_b (k := 81) u4 t1 rfl rfl
          have b81 : mx_b h1 81 i = mx_b h 81 i := me_b (k := 81) s4 hS rfl rfl
          have b82 : mi_a h2 82 i = mi_a h 82 i := (me_a (k := 82) t3 s1 rfl rfl).trans (me_a (k := 82) s4 hS rfl rfl)
          rw [a79, a80, a81, s2, s3, t2, u2, b81, b82]
          by_cases ci : i = zf.toNat
          · rw [if_pos ci, if_pos ci, if_pos ci, if_pos ci]
            refine ⟨rfl, rfl, rfl, ?_⟩
            by_cases z : zf = 0
            · rw [if_pos z, if_pos (by omega)]
            · rw [if_neg z, if_neg (by omega)]
          · rw [if_neg ci, if_neg ci, if_neg ci, if_neg ci]
            exact hv i (by omega)
      refine mt_wkB2 s1 of ?_ ?_ ?_ ?_ ?_ ?_
      · intro k1 k2; exfalso; omega
      · intro k1 k2 k3; exfalso; omega
      · intro k1 k2 k3
        refine ⟨by omega, fun h2 t1 t2 t3 => T43 h2 t1 (fun i => ?_) t3⟩
        rw [t2 i, if_neg k1]
        all_goals rfl
      · intro k1 k2; exfalso; omega
      · intro k1 k2 k3; exfalso; omega
      · intro k1 k2 k3
        refine ⟨by omega, fun h2 t1 t2 t3 => T43 h2 t1 (fun i => ?_) t3⟩
        rw [t2 i, if_pos k1]
        all_goals rfl
theorem me_setsWork (hSb : ab_Sh sx_sk hb) (hF : cv_F hb U) : me_E (d + 7) 65 0 [some (.inr (.inr 78)), none] [] hb (wk_Qc hb) := by
  refine mt_wkA hSb (fun h1 g1 g2 => ?_)
  have e0 := me_nil g2
  subst e0
  exact wk_loop hSb hF 71 0 h1 (by decide) (by decide) (by decide) hSb ab_Fr.refl (fun i hi => by omega)
end WRK
