/-! the class's Sets: how many nodes a part makes side by side -/
def lsw (t : Nat → Int) : Int → List Int → Int
  | z, [] => z
  | z, u :: r => lsw t ((Int32.ofInt z + Int32.ofInt (t u.toNat)).toInt) r
def tvc (t : Nat → Int) (h : sm_H) (u : Int) : Int := if mi_a h 72 u.toNat ≠ 0 then 1 else if mi_a h 68 u.toNat = 1 ∨ mi_a h 68 u.toNat = 2 ∨ mi_a h 68 u.toNat = 9 then 1 else if mi_a h 68 u.toNat = 10 then (if 1 < mi_a h 64 (mi_a h 69 u.toNat).toNat then 1 else lsw t 0 (cv_row h 60 (mi_a h 65 (mi_a h 63 (mi_a h 69 u.toNat).toNat).toNat))) else 0
def tc_P (h : sm_H) (U : Int) : Prop := mi_f h 7690 = U ∧ (0 ≤ U ∧ U ≤ 60) ∧ ∀ u, 0 ≤ u → u < U → (mi_a h 71 u.toNat = -1 ∨ (u < mi_a h 71 u.toNat ∧ mi_a h 71 u.toNat < U)) ∧ (mi_a h 68 u.toNat = 10 → (0 ≤ mi_a h 69 u.toNat ∧ mi_a h 69 u.toNat < 70) ∧ (mi_a h 64 (mi_a h 69 u.toNat).toNat ≤ 1 → (0 ≤ mi_a h 63 (mi_a h 69 u.toNat).toNat ∧ mi_a h 63 (mi_a h 69 u.toNat).toNat < 66) ∧ (mi_a h 65 (mi_a h 63 (mi_a h 69 u.toNat).toNat).toNat = -1 ∨ (u < mi_a h 65 (mi_a h 63 (mi_a h 69 u.toNat).toNat).toNat ∧ mi_a h 65 (mi_a h 63 (mi_a h 69 u.toNat).toNat).toNat < U))))
def tc_Q (h h' : sm_H) (U : Int) : Prop := ∀ u, 0 ≤ u → u < U → mi_a h' 92 u.toNat = tvc (mi_a h' 92) h u
section TPC
variable {d : Nat} {h : sm_H} {U : Int}
theorem lsw_cg {t t' : Nat → Int} : ∀ (l : List Int) (z : Int), (∀ y ∈ l, t y.toNat = t' y.toNat) → lsw t z l = lsw t' z l := by
  intro l
  induction l with
  | nil => intro z _; rfl
  | cons u r ih =>
    intro z h
    show lsw t _ r = lsw t' _ r
    rw [h u List.mem_cons_self]
    exact ih _ (fun y hy => h y (List.mem_cons_of_mem _ hy))
theorem cvr_gt (hl : ∀ u, 0 ≤ u → u < U → (mi_a h 71 u.toNat = -1 ∨ (u < mi_a h 71 u.toNat ∧ mi_a h 71 u.toNat < U))) {v : Int} (hv : -1 ≤ v) : ∀ (n : Nat) (p : Int), (p = -1 ∨ (v < p ∧ p < U)) → ∀ y ∈ cv_row h n p, v < y ∧ y < U := by
  intro n
  induction n with
  | zero => intro p _ y hy; cases hy
  | succ n ih =>
    intro p hp y hy
    rw [cv_row_c] at hy
    by_cases c : p = -1
    · rw [if_pos c] at hy
      cases hy
    · rw [if_neg c] at hy
      have hp := hp.resolve_left c
      rcases List.mem_cons.mp hy with e | hy
      · subst e
        exact hp
      · refine ih _ ?_ y hy
        rcases hl p (by omega) hp.2 with q | q
        · exact Or.inl q
        · exact Or.inr ⟨by omega, q.2⟩
theorem tvc_cg {t t' : Nat → Int} (hP : tc_P h U) {u : Int} (u0 : 0 ≤ u) (u1 : u < U) (e : ∀ v, u < v → v < U → t v.toNat = t' v.toNat) : tvc t h u = tvc t' h u := by
  unfold tvc
  split
  · rfl
  · split
    · rfl
    · split
      · next q =>
        split
        · rfl
        · next q2 =>
          have k := ((hP.2.2 u u0 u1).2 q).2 (by omega)
          exact lsw_cg _ _ (fun y hy => by
            have := cvr_gt (fun u a b => (hP.2.2 u a b).1) (v := u) (by omega) 60 _ k.2 y hy
            exact e y this.1 this.2)
      · rfl
theorem gt44 {zf : Int} (hS : ab_Sh sx_sk h) (of : mi_in zf) (hP : tc_P h U) : ∀ (N : Nat) (zn zp zt : Int), 60 - zn = N → 0 ≤ zn → mi_in zt → (zp = -1 ∨ (0 ≤ zp ∧ zp < U)) → me_E (d + 1) 81 44 [some (.inr (.inr 78)), some (.inl zf), some (.inl zt), some (.inl zp), some (.inl zn)] [] h (fun w h' => h' = h ∧ w = some (.inl (lsw (mi_a h 92) zt (cv_row h N zp)))) := by
  have u60 := hP.2.1
  intro N
  induction N with
  | zero =>
    intro zn zp zt hN n0 ot hp
    refine mt_kgtB hS of ot ⟨by omega, by omega⟩ ⟨by omega, by omega⟩ ?_ ?_ (by intros; exfalso; omega) (by intros; exfalso; omega) (by intros; exfalso; omega)
    · intro c1 h1 g1 g2
      exact ⟨me_nil g2, rfl⟩
    · intro c1 c2 h1 g1 g2
      exact ⟨me_nil g2, rfl⟩
  | succ N ih =>
    intro zn zp zt hN n0 ot hp
    refine mt_kgtB hS of ot ⟨by omega, by omega⟩ ⟨by omega, by omega⟩ ?_ (by intros; exfalso; omega) (by intros; exfalso; omega) (by intros; exfalso; omega) ?_
    · intro c1 h1 g1 g2
      refine ⟨me_nil g2, ?_⟩
      rw [cv_row_c, if_pos c1]
      rfl
    · intro c1 c2 c3 c4
      refine ⟨⟨⟨by omega, by omega⟩, by omega, by omega⟩, fun h1 g1 g2 => ?_⟩
      have e := me_nil g2
      subst e
      have hp' := hp.resolve_left c1
      rw [cv_row_c, if_neg c1]
      refine ih (zn + 1) _ _ (by omega) (by omega) (mi_inT _) ?_
      rcases (hP.2.2 zp hp'.1 hp'.2).1 with q | q
      · exact Or.inl q
      · exact Or.inr ⟨by omega, q.2⟩
theorem me_gtops {zf : Int} (hS : ab_Sh sx_sk h) (hP : tc_P h U) (f0 : 0 ≤ zf) (f1 : zf < 70) (hf : mi_a h 64 zf.toNat ≤ 1 → (0 ≤ mi_a h 63 zf.toNat ∧ mi_a h 63 zf.toNat < 66) ∧ (mi_a h 65 (mi_a h 63 zf.toNat).toNat = -1 ∨ (0 ≤ mi_a h 65 (mi_a h 63 zf.toNat).toNat ∧ mi_a h 65 (mi_a h 63 zf.toNat).toNat < U))) : me_E (d + 1) 81 0 [some (.inr (.inr 78)), some (.inl zf), none, none, none] [] h (fun w h' => h' = h ∧ w = some (.inl (if 1 < mi_a h 64 zf.toNat then 1 else lsw (mi_a h 92) 0 (cv_row h 60 (mi_a h 65 (mi_a h 63 zf.toNat).toNat))))) := by
  have of : mi_in zf := ⟨by omega, by omega⟩
  refine mt_kgtA hS of (by intros; exfalso; omega) (by intros; exfalso; omega) ?_ ?_ ?_ ?_
  · intro c1 c2 c3 c4
    have := (hf c3).1
    exfalso; omega
  · intro c1 c2 c3 c4 c5
    have := (hf c3).1
    exfalso; omega
  · intro c1 c2 c3 c4 c5
    refine ⟨⟨⟨by omega, by omega⟩, by omega, by omega⟩, fun h1 g1 g2 => ?_⟩
    have e := me_nil g2
    subst e
    rw [if_neg (by omega)]
    exact gt44 hS of hP 60 0 _ 0 (by decide) (by decide) ⟨by decide, by decide⟩ (hf c3).2
  · intro c1 c2 c3
    refine ⟨⟨by omega, by omega⟩, fun h1 g1 g2 => ?_⟩
    have e := me_nil g2
    subst e
    rw [if_pos c3]
    exact ⟨rfl, rfl⟩
theorem me_findTops (hS : ab_Sh sx_sk h) (hP : tc_P h U) : me_E (d + 2) 80 0 [some (.inr (.inr 78)), none, none, none] [] h (fun w h' => w = none ∧ ab_Sh sx_sk h' ∧ ab_Fr [(11776, 11777)] h h' ∧ tc_Q h h' U) := by
  have u60 := hP.2.1
  have lp : ∀ (N : Nat) (zp : Int) (q2 q3 : Option mi_V) (h1 : sm_H), zp + 1 = N → zp < U → (∀ v, q2 = some v → mi_ok v) → (∀ v, q3 = some v → mi_ok v) → ab_Sh sx_sk h1 → ab_Fr [(11776, 11777)] h h1 → (∀ u, zp < u → 0 ≤ u → u < U → mi_a h1 92 u.toNat = tvc (mi_a h1 92) h u) → me_E (d + 2) 80 10 [some (.inr (.inr 78)), some (.inl zp), q2, q3] [] h1 (fun w h' => w = none ∧ ab_Sh sx_sk h' ∧ ab_Fr [(11776, 11777)] h h' ∧ tc_Q h h' U) := by
    intro N
    induction N with
    | zero =>
      intro zp q2 q3 h1 hN hz o2 o3 hS1 hF hv
      refine mt_kftB hS1 ⟨by omega, by omega⟩ o2 o3 ?_ (by intros; exfalso; omega) (by intros; exfalso; omega) (by intros; exfalso; omega) (by intros; exfalso; omega) (by intros; exfalso; omega)
      intro c1 h2 g1 g2
      have e := me_nil g2
      subst e
      exact ⟨rfl, g1, hF, fun u u0 u1 => hv u (by omega) u0 u1⟩
    | succ N ih =>
      intro zp q2 q3 h1 hN hz o2 o3 hS1 hF hv
      have z0 : 0 ≤ zp := by omega
      have op : mi_in zp := ⟨by omega, by omega⟩
      have a : ∀ k, k ∈ [63, 64, 65, 68, 69, 71, 72] → mi_a h1 k = mi_a h k := fun k hk => funext fun i => by
        simp only [List.mem_cons, List.not_mem_nil, or_false] at hk
        rcases hk with rfl | rfl | rfl | rfl | rfl | rfl | rfl
        · exact me_a (k := 63) hF hS rfl rfl
        · exact me_a (k := 64) hF hS rfl rfl
        · exact me_a (k := 65) hF hS rfl rfl
        · exact me_a (k := 68) hF hS rfl rfl
        · exact me_a (k := 69) hF hS rfl rfl
        · exact me_a (k := 71) hF hS rfl rfl
        · exact me_a (k := 72) hF hS rfl rfl
      have a68 := congrFun (a 68 (by decide)) zp.toNat
      have a72 := congrFun (a 72 (by decide)) zp.toNat
      have hcr : ∀ n p, cv_row h1 n p = cv_row h n p := by
        intro n
        induction n with
        | zero => intro p; rfl
        | succ n ih2 =>
          intro p
          rw [cv_row_c, cv_row_c, a 71 (by decide), ih2]
      have hP1 : tc_P h1 U := by
        unfold tc_P at hP ⊢
        rw [a 63 (by decide), a 64 (by decide), a 65 (by decide), a 68 (by decide), a 69 (by decide), a 71 (by decide), me_f (c := 7690) hF hS rfl rfl]
        exact hP
      have o68 : mi_in (mi_a h1 68 zp.toNat) := mi_inT _
      -- it is put down
      have fin : ∀ zt, mi_in zt → (mi_a h 72 zp.toNat = 0 → zt = tvc (mi_a h1 92) h zp) → me_E (d + 2) 80 70 [some (.inr (.inr 78)), some (.inl zp), some (.inl (mi_a h1 68 zp.toNat)), some (.inl zt)] [] h1 (fun w h' => w = none ∧ ab_Sh sx_sk h' ∧ ab_Fr [(11776, 11777)] h h' ∧ tc_Q h h' U) := by
        intro zt ot hzt
        have go : ∀ (x : Int) (h2 : sm_H), ab_Sh sx_sk h2 → x = tvc (mi_a h1 92) h zp → (∀ i, mi_a h2 92 i = if i = zp.toNat then x else mi_a h1 92 i) → ab_Fr [(11776, 11777)] h1 h2 → me_E (d + 2) 80 10 [some (.inr (.inr 78)), some (.inl (zp + (-1))), some (.inl (mi_a h1 68 zp.toNat)), some (.inl zt)] [] h2 (fun w h' => w = none ∧ ab_Sh sx_sk h' ∧ ab_Fr [(11776, 11777)] h h' ∧ tc_Q h h' U) := by
          intro x h2 s1 ex s2 s3
          refine ih (zp + (-1)) _ _ h2 (by omega) (by omega) (me_oi o68) (me_oi ot) s1 (hF.trans s3) (fun u c0 u0 u1 => ?_)
          have ecg : tvc (mi_a h2 92) h u = tvc (mi_a h1 92) h u := tvc_cg hP u0 u1 (fun v v0 v1 => by rw [s2, if_neg (by omega)])
          rw [ecg, s2]
          by_cases cu : u.toNat = zp.toNat
          · rw [if_pos cu, ex, show u = zp by omega]
          · rw [if_neg cu]
            exact hv u (by omega) u0 u1
        refine mt_kftE hS1 op o68 ot (by intros; exfalso; omega) (by intros; exfalso; omega) ?_ ?_
        · intro c1 c2 c3
          refine ⟨⟨⟨by omega, by omega⟩, by omega, by omega⟩, fun h2 s1 s2 s3 => go 1 h2 s1 ?_ s2 s3⟩
          unfold tvc
          rw [if_pos (by rw [← a72]; exact c3)]
        · intro c1 c2 c3
          exact ⟨⟨⟨by omega, by omega⟩, by omega, by omega⟩, fun h2 s1 s2 s3 => go zt h2 s1 (hzt (by rw [← a72]; exact c3)) s2 s3⟩
      -- what it is without repeats
      have mid : ∀ zt, mi_in zt → (mi_a h1 68 zp.toNat ≠ 10 → mi_a h 72 zp.toNat = 0 → zt = tvc (mi_a h1 92) h zp) → ∀ h2, ab_Sh sx_sk h2 → ab_Fr [] h1 h2 → me_E (d + 2) 80 48 [some (.inr (.inr 78)), some (.inl zp), some (.inl (mi_a h1 68 zp.toNat)), some (.inl zt)] [] h2 (fun w h' => w = none ∧ ab_Sh sx_sk h' ∧ ab_Fr [(11776, 11777)] h h' ∧ tc_Q h h' U) := by
        intro zt ot hzt h2 g1 g2
        have e := me_nil g2
        subst e
        refine mt_kftC hS1 op o68 ot ?_ (by intros; exfalso; omega) (by intros; exfalso; omega) ?_
        · intro c1 h3 r1 r2
          have e := me_nil r2
          subst e
          exact fin zt ot (hzt c1)
        · intro c1 c2 c3
          have k10 := (hP1.2.2 zp z0 hz).2 c1
          refine ⟨⟨by omega, by omega⟩, fun h3 r1 r2 => ?_⟩
          have e := me_nil r2
          subst e
          refine ⟨_, me_gtops (d := d) hS1 hP1 k10.1.1 k10.1.2 (fun q => ⟨(k10.2 q).1, by have := (k10.2 q).2; omega⟩), fun w h4 hw hq => ?_⟩
          obtain ⟨rfl, rfl⟩ := hq
          refine mt_kftD hS1 op o68 ot (hw _ rfl) ?_
          intro h5 s1 s2
          have e := me_nil s2
          subst e
          refine fin _ (hw _ rfl) (fun q => ?_)
          have c10 : mi_a h 68 zp.toNat = 10 := by rw [← a68]; exact c1
          have ev : tvc (mi_a h5 92) h zp = (if 1 < mi_a h 64 (mi_a h 69 zp.toNat).toNat then 1 else lsw (mi_a h5 92) 0 (cv_row h 60 (mi_a h 65 (mi_a h 63 (mi_a h 69 zp.toNat).toNat).toNat))) := by
            unfold tvc
            rw [if_neg (show ¬ mi_a h 72 zp.toNat ≠ 0 from fun z => z q), if_neg (show ¬ (mi_a h 68 zp.toNat = 1 ∨ mi_a h 68 zp.toNat = 2 ∨ mi_a h 68 zp.toNat = 9) by omega), if_pos c10]
          rw [ev, hcr, a 63 (by decide), a 64 (by decide), a 65 (by decide), a 69 (by decide)]
      refine mt_kftB hS1 op o2 o3 (by intros; exfalso; omega) (by intros; exfalso; omega) ?_ ?_ ?_ ?_
      · intro c1 c2 c3
        refine ⟨⟨by omega, by omega⟩, mid 1 ⟨by decide, by decide⟩ (fun _ q => ?_)⟩
        unfold tvc
        rw [if_neg (fun z => z q), if_pos (Or.inl (by rw [← a68]; exact c3))]
      · intro c1 c2 c3 c4
        refine ⟨⟨by omega, by omega⟩, mid 1 ⟨by decide, by decide⟩ (fun _ q => ?_)⟩
        unfold tvc
        rw [if_neg (fun z => z q), if_pos (Or.inr (Or.inl (by rw [← a68]; exact c4)))]
      · intro c1 c2 c3 c4 c5
        refine ⟨⟨by omega, by omega⟩, mid 0 ⟨by decide, by decide⟩ (fun n10 q => ?_)⟩
        unfold tvc
        rw [if_neg (fun z => z q), if_neg (by rw [← a68]; omega), if_neg (by rw [← a68]; exact n10)]
      · intro c1 c2 c3 c4 c5
        refine ⟨⟨by omega, by omega⟩, mid 1 ⟨by decide, by decide⟩ (fun _ q => ?_)⟩
        unfold tvc
        rw [if_neg (fun z => z q), if_pos (Or.inr (Or.inr (by rw [← a68]; exact c5)))]
  refine mt_kftA hS ?_
  intro b
  have e90 := hP.1
  refine ⟨by omega, fun h1 g1 g2 => ?_⟩
  have e := me_nil g2
  subst e
  rw [e90]
  exact lp U.toNat (U - 1) none none h1 (by omega) (by omega) me_on me_on hS ab_Fr.refl (fun u c0 u0 u1 => by omega)
theorem tvc_eq {h' : sm_H} (e : cv_eq h h') {t : Nat → Int} {u : Int} : tvc t h' u = tvc t h u := by
  obtain ⟨e1, e2, e3, e4, e5, e6, e7, e8⟩ := e
  have hcr : ∀ n p, cv_row h' n p = cv_row h n p := by
    intro n
    induction n with
    | zero => intro p; rfl
    | succ n ih => intro p; rw [cv_row_c, cv_row_c, e7, ih]
  unfold tvc
  rw [hcr, e1, e2, e3, e5, e6, e8]
theorem tc_P_eq {h' : sm_H} (e : cv_eq h h') (f : mi_f h' 7690 = mi_f h 7690) (hP : tc_P h U) : tc_P h' U := by
  obtain ⟨e1, e2, e3, e4, e5, e6, e7, e8⟩ := e
  unfold tc_P at hP ⊢
  rw [e1, e2, e3, e5, e6, e7, f]
  exact hP
theorem tc_Q_eq {h1 h2 h1' h2' : sm_H} (e : cv_eq h1 h1') (e92 : mi_a h2' 92 = mi_a h2 92) (hQ : tc_Q h1 h2 U) : tc_Q h1' h2' U := fun u u0 u1 => by
  rw [e92, tvc_eq e]
  exact hQ u u0 u1
end TPC
