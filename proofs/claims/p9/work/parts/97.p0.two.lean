/-! the class's rows and the reference's are the same system -/
def fm_of (f : Int → Int) (F : Nat) : Nat := (f F).toNat
/-- the class's rows, plainly -/
def TC (f : Int → Int) (ow : Nat → Nat) (g : wk_g) (h : sm_H) : Prop :=
  (∀ x : Nat, (x : Int) < g 0 2 → mi_a h 63 (f x).toNat = g 129 x ∧ mi_a h 64 (f x).toNat = g 130 x) ∧
  (∀ j : Nat, j < 70 → (∀ x : Nat, (x : Int) < g 0 2 → f x ≠ j) → mi_a h 64 j = 0) ∧
  (∀ a : Nat, (a : Int) < g 0 1 → mi_a h 65 a = g 126 a ∧ mi_a h 66 a = g 128 a) ∧
  (∀ u : Nat, (u : Int) < g 0 0 → mi_a h 68 u = g 119 u ∧ mi_a h 69 u = (if g 119 u = 9 then g 115 (g 120 u).toNat else if g 119 u = 10 then f (g 120 u) else g 120 u) ∧ mi_a h 71 u = cq_n ow g u ∧ mi_a h 72 u = (if g 122 u = 0 then 0 else g 122 u + 4)) ∧
  (∀ u : Nat, (u : Int) < g 0 0 → (g 119 u = 10 → 0 ≤ g 120 u ∧ g 120 u < g 0 2) ∧ (g 119 u = 9 → 0 ≤ g 120 u ∧ g 120 u < 26)) ∧
  (∀ v : Nat, v < 26 → 0 ≤ g 115 v → g 115 v < g 0 3) ∧ mi_f h 7680 = g 0 3
/-- what both reads leave, in one heap -/
def TW (f : Int → Int) (ow : Nat → Nat) (g : wk_g) (Y : wk_Y) (h : sm_H) : Prop := ab_Sh sx_sk h ∧ RQ g h ∧ TC f ow g h ∧ PR ow g ∧ FI f g ∧ PV 240 g ∧ PW g ∧ rz_U g ∧ sy_L h Y ∧ g 0 1 ≤ g 0 0
section TWO
variable {f : Int → Int} {ow : Nat → Nat} {g : wk_g} {Y : wk_Y} {h : sm_H}
theorem TC_of (hU : CU f ow g (g 0 0) h) : TC f ow g h := by
  obtain ⟨h0, s0, ⟨⟨c0, c1, c2, c3, c4⟩, d1, d2, d3, d4, d5, d6, d7, d8, d9, dw⟩, hF, h69⟩ := hU
  have a : ∀ k i, (mx_isA sx_sk k || mx_isB sx_sk k) = true → ab_in nu_W (k * 128) = false → mi_a h k i = mi_a h0 k i := fun k i x1 x2 => me_a (k := k) hF s0 x1 x2
  refine ⟨fun x hx => ?_, fun j hj hn => ?_, fun a' ha => ?_, fun u hu => ?_, d9, fun v hv hv0 => (d2 v hv hv0).1, (me_f (c := 7680) hF s0 rfl rfl).trans c2⟩
  · rw [a 63 _ rfl rfl, a 64 _ rfl rfl]
    exact d4 x hx
  · rw [a 64 _ rfl rfl]
    exact (d5 j hj hn).2
  · rw [a 65 _ rfl rfl, a 66 _ rfl rfl]
    exact ⟨(d6 a' ha).1, (d6 a' ha).2.1⟩
  · obtain ⟨x1, x2, x3, x4, x5, x6⟩ := d7 u hu
    rw [a 68 _ rfl rfl, a 71 _ rfl rfl, a 72 _ rfl rfl, h69 u hu]
    refine ⟨x1, ?_, x4, x5⟩
    by_cases c9 : g 119 u = 9
    · rw [if_pos ⟨c9, hu⟩, if_pos c9]
    · rw [if_neg (fun q => c9 q.1), if_neg c9, x2]
      unfold cq_v
      rw [if_neg c9]
/-- the reference's rows, plainly -/
theorem TW_g (hq : RQ g h) {r : Nat} (hr : r ∈ [114, 115, 119, 120, 122, 124, 125, 126, 128, 129, 130]) : mi_a h r = g r := by
  have k := hr
  simp only [List.mem_cons, List.not_mem_nil, or_false] at k
  funext i
  rcases k with rfl | rfl | rfl | rfl | rfl | rfl | rfl | rfl | rfl | rfl | rfl
  all_goals exact (hq.2.1 _ (by decide) i).symm
theorem TW_f0 (hI : FI f g) {x : Int} (x0 : 0 ≤ x) (x1 : x < g 0 2) : ((fm_of f x.toNat : Nat) : Int) = f x := by
  unfold fm_of
  rw [Int.toNat_of_nonneg x0]
  exact Int.toNat_of_nonneg (hI.2.2.2 x x0 x1).1
theorem TW_p (hq : RQ g h) (hC : TC f ow g h) (hI : FI f g) (hV : PV 240 g) (hZ : rz_U g) {u : Int} (u0 : 0 ≤ u) (u1 : u < g 0 0) : cv_p h u = sn (fm_of f) (rv_p (mi_a h) u) := by
  obtain ⟨x1, x2, x3, x4⟩ := hC.2.2.2.1 u.toNat (by omega)
  obtain ⟨y1, y2⟩ := hC.2.2.2.2.1 u.toNat (by omega)
  obtain ⟨v1, v2, v3, v4⟩ := hV.2.2 u.toNat (by omega)
  have r119 := congrFun (TW_g hq (r := 119) (by decide)) u.toNat
  have r120 := congrFun (TW_g hq (r := 120) (by decide)) u.toNat
  have r122 := congrFun (TW_g hq (r := 122) (by decide)) u.toNat
  have r115 := TW_g hq (r := 115) (by decide)
  have r114 := TW_g hq (r := 114) (by decide)
  have e1 : gf_v h u = if 0 ≤ rv_t (mi_a h) u then ((fm_of f (rv_t (mi_a h) u).toNat : Nat) : Int) else rv_t (mi_a h) u := by
    unfold gf_v rv_t
    rw [x1, x2, r119, r120, r115, r114]
    by_cases c10 : g 119 u.toNat = 10
    · have n9 : g 119 u.toNat ≠ 9 := by omega
      obtain ⟨z0, z1⟩ := y1 c10
      rw [if_pos (Or.inr c10), if_neg n9, if_pos c10, if_pos c10, if_pos z0, TW_f0 hI z0 z1]
    · by_cases c9 : g 119 u.toNat = 9
      · obtain ⟨z0, z1⟩ := y2 c9
        have p0 := hZ u.toNat (by omega) c9
        have p1 := hC.2.2.2.2.2.1 (g 120 u.toNat).toNat (by omega) p0
        obtain ⟨q1, q2⟩ := hI.1 (g 115 (g 120 u.toNat).toNat).toNat (by omega)
        rw [if_pos (Or.inl c9), if_pos c9, if_neg c10, if_pos c9, if_pos q1.1, TW_f0 hI q1.1 q1.2, q2]
        omega
      · rw [if_neg (by omega), if_neg c10, if_neg c9, if_neg (by decide)]
  have e2 : (if mi_a h 72 u.toNat = 0 then (0 : Int) else if mi_a h 72 u.toNat = 5 then 1 else 2) = (if 0 < mi_a h 122 u.toNat then (if mi_a h 122 u.toNat = 1 then 1 else 2) else 0) := by
    rw [x4, r122]
    by_cases c0 : g 122 u.toNat = 0
    · rw [if_pos c0, if_pos rfl, if_neg (c := 0 < g 122 u.toNat) (by omega)]
    · rw [if_neg c0, if_neg (c := g 122 u.toNat + 4 = 0) (by omega), if_pos (c := 0 < g 122 u.toNat) (by omega)]
      by_cases c1 : g 122 u.toNat = 1
      · rw [if_pos (c := g 122 u.toNat + 4 = 5) (by omega), if_pos c1]
      · rw [if_neg (c := g 122 u.toNat + 4 = 5) (by omega), if_neg c1]
  have e3 : pb_s (mi_a h 68 u.toNat) (mi_a h 69 u.toNat) = pb_s (mi_a h 119 u.toNat) (mi_a h 120 u.toNat) := by
    rw [x1, x2, r119, r120]
    unfold pb_s
    by_cases c8 : g 119 u.toNat = 8
    · rw [if_neg (c := g 119 u.toNat = 9) (by omega), if_neg (c := g 119 u.toNat = 10) (by omega)]
    · rw [if_neg (c := g 119 u.toNat = 8) c8, if_neg (c := g 119 u.toNat = 8) c8]
  show (gf_v h u, (if mi_a h 68 u.toNat = 9 then (1 : Int) else 0), (if mi_a h 72 u.toNat = 0 then (0 : Int) else if mi_a h 72 u.toNat = 5 then 1 else 2), pb_v (mi_a h 68 u.toNat), pb_s (mi_a h 68 u.toNat) (mi_a h 69 u.toNat)) = ((if 0 ≤ rv_t (mi_a h) u then ((fm_of f (rv_t (mi_a h) u).toNat : Nat) : Int) else rv_t (mi_a h) u), (if mi_a h 119 u.toNat = 9 then (1 : Int) else 0), (if 0 < mi_a h 122 u.toNat then (if mi_a h 122 u.toNat = 1 then (1 : Int) else 2) else 0), pb_v (mi_a h 119 u.toNat), pb_s (mi_a h 119 u.toNat) (mi_a h 120 u.toNat))
  rw [e1, e2, e3, x1, r119]
/-- the links of the class's parts ascend -/
theorem TW_71 {h2 : sm_H} (hq : RQ g h2) (hC : TC f ow g h) (hP : PR ow g) (hL : sy_L h2 Y) {u : Int} (u0 : 0 ≤ u) (u1 : u < g 0 0) : mi_a h 71 u.toNat = -1 ∨ (u < mi_a h 71 u.toNat ∧ mi_a h 71 u.toNat < g 0 0) := by
  have x3 := (hC.2.2.2.1 u.toNat (by omega)).2.2.1
  have hK := wk_L_C hL.1
  have eU : wk_u Y = g 0 0 := by rw [hL.2.1]; exact hq.1.1.symm
  have r124 := TW_g hq (r := 124) (by decide)
  have r125 := TW_g hq (r := 125) (by decide)
  obtain ⟨p1, p2, p3, p4, p5⟩ := hP.2.1 u.toNat (by omega)
  rw [x3]
  unfold cq_n
  by_cases c4 : 0 ≤ g 124 u.toNat
  · rw [if_pos c4]
    have k := (hK.2 u u0 (by omega)).1
    rw [r124, eU] at k
    have := k c4
    exact Or.inr ⟨this.2.1, this.1⟩
  · rw [if_neg c4]
    have go : ∀ v : Nat, (v : Int) < g 0 0 → (v = u.toNat ∨ g 124 v = u) → g 125 v = -1 ∨ (u < g 125 v ∧ g 125 v < g 0 0) := by
      intro v hv hv2
      obtain ⟨s1, s2, -⟩ := hP.2.1 v hv
      by_cases c5 : 0 ≤ g 125 v
      · have k := (hK.2 (v : Int) (by omega) (by omega)).2
        rw [r124, r125, eU] at k
        have k : g 125 v < g 0 0 ∧ (v : Int) < g 125 v ∧ (0 ≤ g 124 v → g 124 v < g 125 v) := k c5
        refine Or.inr ⟨?_, k.1⟩
        rcases hv2 with q | q
        · omega
        · have := k.2.2 (by omega)
          omega
      · exact Or.inl (by omega)
    rcases p5 with q | ⟨q1, q2⟩
    · rw [q]
      exact go u.toNat (by omega) (Or.inl rfl)
    · exact go (ow u.toNat) q1 (Or.inr (by omega))
theorem TW_u {h2 : sm_H} (hq : RQ g h2) (hC : TC f ow g h) (hP : PR ow g) (hI : FI f g) (hV : PV 240 g) (hZ : rz_U g) (hL : sy_L h2 Y) : cv_u h (g 0 0) := by
  refine ⟨hP.1.1.2, fun u u0 u1 => ⟨TW_71 hq hC hP hL u0 u1, ?_, fun q => ?_⟩⟩
  · obtain ⟨x1, x2, -, -⟩ := hC.2.2.2.1 u.toNat (by omega)
    obtain ⟨y1, y2⟩ := hC.2.2.2.2.1 u.toNat (by omega)
    obtain ⟨⟨b0, b1, b2, b3, b4⟩, -⟩ := hP
    unfold gf_v
    rw [x1, x2]
    by_cases c10 : g 119 u.toNat = 10
    · obtain ⟨z0, z1⟩ := y1 c10
      have := hI.2.2.2 _ z0 z1
      rw [if_pos (Or.inr c10), if_neg (by omega), if_pos c10]
      omega
    · by_cases c9 : g 119 u.toNat = 9
      · obtain ⟨z0, z1⟩ := y2 c9
        have p0 := hZ u.toNat (by omega) c9
        have p1 := hC.2.2.2.2.2.1 (g 120 u.toNat).toNat (by omega) p0
        rw [if_pos (Or.inl c9), if_pos c9]
        omega
      · rw [if_neg (by omega)]
        exact Or.inl rfl
  · obtain ⟨x1, x2, -, -⟩ := hC.2.2.2.1 u.toNat (by omega)
    rw [x1] at q
    rw [x2, if_neg (by omega), if_neg (by omega)]
    exact (hV.2.2 u.toNat (by omega)).2.2.2 q
/-- an alternative's line -/
theorem TW_row (hq : RQ g h) (hC : TC f ow g h) (hP : PR ow g) (hL : sy_L h Y) (hU : cv_u h (g 0 0)) : ∀ (M : Nat) (u : Int), (u = -1 ∨ ((0 ≤ u ∧ u < g 0 0) ∧ ow u.toNat = u.toNat)) → (u ≠ -1 → g 0 0 - u ≤ M) → cv_row h 60 u = wk_row (mi_a h) M u := by
  have r124 := TW_g hq (r := 124) (by decide)
  have r125 := TW_g hq (r := 125) (by decide)
  have hU60 := hU.1
  have fu : ∀ u : Int, 0 ≤ u → u < g 0 0 → cv_row h 60 u = u :: cv_row h 60 (mi_a h 71 u.toNat) := by
    intro u u0 u1
    have w := (hU.2 u u0 u1).1
    rw [cv_row_c, if_neg (by omega), cv_row_fuel hU 59 60 _ (by omega) (fun q => by omega)]
  intro M
  induction M with
  | zero =>
    intro u hu hn
    by_cases c : u = -1
    · rw [cv_row_c, if_pos c]
      rfl
    · have := hn c
      have := (hu.resolve_left c).1
      exfalso
      omega
  | succ M ih =>
    intro u hu hn
    by_cases c : u = -1
    · rw [cv_row_c, if_pos c]
      unfold wk_row
      rw [if_pos (by omega)]
    · have hn := hn c
      obtain ⟨⟨u0, u1⟩, ou⟩ := hu.resolve_left c
      have w := (hU.2 u u0 u1).1
      have x3 := (hC.2.2.2.1 u.toNat (by omega)).2.2.1
      obtain ⟨p1, p2, p3, p4, p5⟩ := hP.2.1 u.toNat (by omega)
      have nx : ∀ z : Int, z = g 125 u.toNat → u < z ∨ z = -1 → cv_row h 60 z = wk_row (mi_a h) M z := by
        intro z ez hz
        refine ih z ?_ (fun q => by omega)
        by_cases q : z = -1
        · exact Or.inl q
        · have z0 : 0 ≤ g 125 u.toNat := by omega
          refine Or.inr ⟨by omega, ?_⟩
          rw [ez]
          exact p4 z0
      rw [fu u u0 u1]
      unfold cq_n at x3
      unfold wk_row
      rw [if_neg (by omega), r124, r125]
      by_cases c4 : 0 ≤ g 124 u.toNat
      · rw [if_pos c4] at x3
        rw [if_pos c4, x3]
        obtain ⟨m1, m2⟩ := p3 c4
        have mlt : g 124 u.toNat < g 0 0 := p1.2
        rw [fu _ c4 mlt]
        have x3' := (hC.2.2.2.1 (g 124 u.toNat).toNat (by omega)).2.2.1
        unfold cq_n at x3'
        rw [if_neg (by rw [m2]; decide), m1] at x3'
        have w' := (hU.2 _ c4 mlt).1
        rw [x3'] at w' ⊢
        rw [nx _ rfl (by omega)]
      · rw [if_neg c4, ou] at x3
        rw [if_neg c4, x3]
        rw [x3] at w
        rw [nx _ rfl (by omega)]
end TWO
