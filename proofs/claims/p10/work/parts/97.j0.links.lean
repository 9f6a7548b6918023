/-! READING, purely: how units hang together; ow: of a unit that is the second of a pair, the first one -/
def pi_un (g : wk_g) (u : Int) : Prop := (0 ≤ u ∧ u < g 0 0) ∧ g 124 u.toNat = -1 ∧ g 125 u.toNat = -1 ∧ (∀ v : Nat, (v : Int) < g 0 0 → g 124 v ≠ u ∧ g 125 v ≠ u) ∧ ∀ a : Nat, (a : Int) < g 0 1 → g 126 a ≠ u
def pi_lev (ow : Nat → Nat) (g : wk_g) (i : Nat) : Prop := (0 ≤ g 147 i ∧ g 147 i < g 0 1) ∧ (-1 ≤ g 149 i ∧ g 149 i < g 0 0) ∧ (-1 ≤ g 150 i ∧ g 150 i < g 0 0) ∧ (g 149 i < 0 ↔ g 150 i < 0) ∧ (0 ≤ g 150 i → ow (g 150 i).toNat = (g 149 i).toNat ∧ g 124 (g 150 i).toNat = -1 ∧ g 125 (g 149 i).toNat = -1) ∧ (g 151 i ≠ 0 → 0 ≤ g 149 i ∧ g 150 i = g 149 i)
def pi_u (ow : Nat → Nat) (g : wk_g) (v : Nat) : Prop := (-1 ≤ g 124 v ∧ g 124 v < g 0 0) ∧ (-1 ≤ g 125 v ∧ g 125 v < g 0 0) ∧ (0 ≤ g 124 v → ow (g 124 v).toNat = v ∧ g 124 (g 124 v).toNat = -1) ∧ (0 ≤ g 125 v → ow (g 125 v).toNat = (g 125 v).toNat) ∧ (ow v = v ∨ ((ow v : Int) < g 0 0 ∧ g 124 (ow v) = v))
def PI (ow : Nat → Nat) (g : wk_g) (m : Int) : Prop :=
  ((0 ≤ g 0 0 ∧ g 0 0 ≤ 60) ∧ 0 ≤ g 0 1 ∧ (0 ≤ g 0 3 ∧ g 0 3 ≤ 10) ∧ (g 0 3 ≤ g 0 2 ∧ g 0 2 ≤ g 0 0 + g 0 3) ∧ (0 ≤ g 0 4 ∧ g 0 4 ≤ 20) ∧ (0 ≤ g 0 5 ∧ g 0 5 ≤ 4)) ∧
  (∀ i : Nat, (i : Int) ≤ m → pi_lev ow g i) ∧
  (∀ i : Nat, (i : Int) ≤ g 0 5 → 0 ≤ g 146 i ∧ g 146 i < g 0 2) ∧
  (∀ i : Nat, 1 ≤ i → (i : Int) ≤ g 0 5 → pi_un g (g 148 i)) ∧
  (∀ i j : Nat, i < j → (j : Int) ≤ g 0 5 → (g 149 i < g 148 j ∧ g 150 i < g 148 j) ∧ (1 ≤ i → g 148 i < g 148 j)) ∧
  (∀ i j : Nat, 1 ≤ i → i ≤ j → (j : Int) ≤ m → (0 ≤ g 149 j → g 148 i < g 149 j) ∧ (0 ≤ g 150 j → g 148 i < g 150 j)) ∧
  (∀ v : Nat, (v : Int) < g 0 0 → pi_u ow g v) ∧
  (∀ a : Nat, (a : Int) < g 0 1 → (-1 ≤ g 126 a ∧ g 126 a < g 0 0) ∧ (0 ≤ g 126 a → ow (g 126 a).toNat = (g 126 a).toNat)) ∧
  (∀ f : Nat, (f : Int) < g 0 2 → 0 ≤ g 130 f ∧ g 130 f ≤ 6)
/-- what of it holds between rules -/
def PR (ow : Nat → Nat) (g : wk_g) : Prop :=
  ((0 ≤ g 0 0 ∧ g 0 0 ≤ 60) ∧ 0 ≤ g 0 1 ∧ (0 ≤ g 0 3 ∧ g 0 3 ≤ 10) ∧ (g 0 3 ≤ g 0 2 ∧ g 0 2 ≤ g 0 0 + g 0 3) ∧ (0 ≤ g 0 4 ∧ g 0 4 ≤ 20)) ∧
  (∀ v : Nat, (v : Int) < g 0 0 → pi_u ow g v) ∧
  (∀ a : Nat, (a : Int) < g 0 1 → (-1 ≤ g 126 a ∧ g 126 a < g 0 0) ∧ (0 ≤ g 126 a → ow (g 126 a).toNat = (g 126 a).toNat)) ∧
  (∀ f : Nat, (f : Int) < g 0 2 → 0 ≤ g 130 f ∧ g 130 f ≤ 6)
theorem PI.r {ow : Nat → Nat} {g : wk_g} {m : Int} (h : PI ow g m) : PR ow g := ⟨⟨h.1.1, h.1.2.1, h.1.2.2.1, h.1.2.2.2.1, h.1.2.2.2.2.1⟩, h.2.2.2.2.2.2.1, h.2.2.2.2.2.2.2.1, h.2.2.2.2.2.2.2.2⟩
section PIL
variable {ow : Nat → Nat} {g : wk_g} {m : Int}
theorem pi_uno {u : Int} (hP : PI ow g m) (hu : pi_un g u) : ow u.toNat = u.toNat := by
  obtain ⟨⟨u0, u1⟩, -, -, u4, -⟩ := hu
  rcases (hP.2.2.2.2.2.2.1 u.toNat (by omega)).2.2.2.2 with x | ⟨x1, x2⟩
  · exact x
  · exact absurd (by rw [x2]; omega) (u4 _ x1).1
/-- rows that PI does not look at -/
theorem PI_cg {g' : wk_g} (hP : PI ow g m) (e0 : g' 0 0 = g 0 0 ∧ g' 0 1 = g 0 1 ∧ g' 0 2 = g 0 2 ∧ g' 0 3 = g 0 3 ∧ g' 0 5 = g 0 5) (e4 : 0 ≤ g' 0 4 ∧ g' 0 4 ≤ 20) (e : ∀ r, r ∈ [124, 125, 126, 130, 146, 147, 148, 149, 150, 151] → ∀ i, g' r i = g r i) : PI ow g' m := by
  have a124 := e 124 (by decide)
  have a125 := e 125 (by decide)
  have a126 := e 126 (by decide)
  have a130 := e 130 (by decide)
  have a146 := e 146 (by decide)
  have a147 := e 147 (by decide)
  have a148 := e 148 (by decide)
  have a149 := e 149 (by decide)
  have a150 := e 150 (by decide)
  have a151 := e 151 (by decide)
  obtain ⟨z0, z1, z2, z3, z5⟩ := e0
  obtain ⟨⟨p1, p2, p3, p4, p5, p6⟩, pR⟩ := hP
  unfold PI pi_lev pi_un pi_u at *
  simp only [a124, a125, a126, a130, a146, a147, a148, a149, a150, a151, z0, z1, z2, z3, z5]
  exact ⟨⟨p1, p2, p3, p4, e4, p6⟩, pR⟩
theorem PI_beg {p : Int} (hP : PI ow g m) (hm : g 0 5 - 1 ≤ m) (hc : g 130 (g 146 (g 0 5).toNat).toNat ≤ 5) : PI ow (rf_beg g p) (g 0 5) := by
  obtain ⟨⟨p1, p2, p3, p4, p5, p6⟩, q1, q2, q3, q4, q5, q6, q7, q8⟩ := hP
  obtain ⟨g', hg⟩ : ∃ g', g' = rf_beg g p := ⟨_, rfl⟩
  rw [← hg]
  have z0 : g' 0 0 = g 0 0 := by rw [hg]; rfl
  have z1 : g' 0 1 = g 0 1 + 1 := by rw [hg]; rfl
  have z2 : g' 0 2 = g 0 2 := by rw [hg]; rfl
  have z3 : g' 0 3 = g 0 3 := by rw [hg]; rfl
  have z4 : g' 0 4 = g 0 4 := by rw [hg]; rfl
  have z5 : g' 0 5 = g 0 5 := by rw [hg]; rfl
  have a124 : ∀ i, g' 124 i = g 124 i := fun i => by rw [hg]; rfl
  have a125 : ∀ i, g' 125 i = g 125 i := fun i => by rw [hg]; rfl
  have a126 : ∀ i, g' 126 i = if i = (g 0 1).toNat then -1 else g 126 i := fun i => by rw [hg]; rfl
  have a130 : ∀ i, g' 130 i = if i = (g 146 (g 0 5).toNat).toNat then g 130 i + 1 else g 130 i := fun i => by rw [hg]; rfl
  have a146 : ∀ i, g' 146 i = g 146 i := fun i => by rw [hg]; rfl
  have a148 : ∀ i, g' 148 i = g 148 i := fun i => by rw [hg]; rfl
  have a147 : ∀ i, g' 147 i = if i = (g 0 5).toNat then g 0 1 else g 147 i := fun i => by rw [hg]; rfl
  have a149 : ∀ i, g' 149 i = if i = (g 0 5).toNat then -1 else g 149 i := fun i => by rw [hg]; rfl
  have a150 : ∀ i, g' 150 i = if i = (g 0 5).toNat then -1 else g 150 i := fun i => by rw [hg]; rfl
  have a151 : ∀ i, g' 151 i = if i = (g 0 5).toNat then 0 else g 151 i := fun i => by rw [hg]; rfl
  clear hg
  have un : ∀ {u}, pi_un g u → pi_un g' u := fun {u} ⟨x1, x2, x3, x4, x5⟩ => by
    refine ⟨by rw [z0]; exact x1, by rw [a124]; exact x2, by rw [a125]; exact x3, fun v hv => by rw [a124, a125]; exact x4 v (by omega), fun a ha => ?_⟩
    rw [a126]
    by_cases c : a = (g 0 1).toNat
    · rw [if_pos c]; omega
    · rw [if_neg c]; exact x5 a (by omega)
  refine ⟨⟨by omega, by omega, by omega, by omega, by omega, by omega⟩, fun i hi => ?_, fun i hi => ?_, fun i i1 hi => ?_, fun i j ij hj => ?_, fun i j i1 ij hj => ?_, fun v hv => ?_, fun a ha => ?_, fun f hf => ?_⟩
  · by_cases c : i = (g 0 5).toNat
    · unfold pi_lev
      rw [a147, a149, a150, a151, if_pos c, if_pos c, if_pos c, if_pos c]
      exact ⟨by omega, by omega, by omega, by omega, fun x => by omega, fun x => absurd rfl x⟩
    · have x := q1 i (by omega)
      unfold pi_lev at x ⊢
      rw [a147, a149, a150, a151, if_neg c, if_neg c, if_neg c, if_neg c, a124, a125, z0, z1]
      exact ⟨by omega, x.2⟩
  · rw [a146, z2]
    exact q2 i (by omega)
  · rw [a148]
    exact un (q3 i i1 (by omega))
  · rw [a149, a150, a148, a148, if_neg (by omega), if_neg (by omega)]
    exact q4 i j ij (by omega)
  · rw [a149, a150, a148]
    by_cases c : j = (g 0 5).toNat
    · rw [if_pos c, if_pos c]
      exact ⟨fun x => by omega, fun x => by omega⟩
    · rw [if_neg c, if_neg c]
      exact q5 i j i1 ij (by omega)
  · have x := q6 v (by omega)
    unfold pi_u at x ⊢
    simp only [a124, a125, z0]
    exact x
  · rw [a126, z0]
    by_cases c : a = (g 0 1).toNat
    · rw [if_pos c]
      exact ⟨by omega, fun x => by omega⟩
    · rw [if_neg c]
      exact q7 a (by omega)
  · rw [a130]
    have x := q8 f (by omega)
    by_cases c : f = (g 146 (g 0 5).toNat).toNat
    · rw [if_pos c]
      rw [← c] at hc
      omega
    · rw [if_neg c]
      exact x
/-- a unit more, that hangs nowhere -/
def ow_new (g : wk_g) (ow : Nat → Nat) : Nat → Nat := fun v => if v = (g 0 0).toNat then (g 0 0).toNat else ow v
theorem PI_unit {s w p : Int} (hP : PI ow g m) (hU : g 0 0 < 60) : PI (ow_new g ow) (rf_unit g s w p) m ∧ pi_un (rf_unit g s w p) (g 0 0) := by
  obtain ⟨⟨p1, p2, p3, p4, p5, p6⟩, q1, q2, q3, q4, q5, q6, q7, q8⟩ := hP
  obtain ⟨g', hg⟩ : ∃ g', g' = rf_unit g s w p := ⟨_, rfl⟩
  rw [← hg]
  have z0 : g' 0 0 = g 0 0 + 1 := by rw [hg]; rfl
  have z1 : g' 0 1 = g 0 1 := by rw [hg]; rfl
  have z2 : g' 0 2 = g 0 2 := by rw [hg]; rfl
  have z3 : g' 0 3 = g 0 3 := by rw [hg]; rfl
  have z4 : g' 0 4 = g 0 4 := by rw [hg]; rfl
  have z5 : g' 0 5 = g 0 5 := by rw [hg]; rfl
  have a124 : ∀ i, g' 124 i = if i = (g 0 0).toNat then -1 else g 124 i := fun i => by rw [hg]; rfl
  have a125 : ∀ i, g' 125 i = if i = (g 0 0).toNat then -1 else g 125 i := fun i => by rw [hg]; rfl
  have a126 : ∀ i, g' 126 i = g 126 i := fun i => by rw [hg]; rfl
  have a130 : ∀ i, g' 130 i = g 130 i := fun i => by rw [hg]; rfl
  have a146 : ∀ i, g' 146 i = g 146 i := fun i => by rw [hg]; rfl
  have a148 : ∀ i, g' 148 i = g 148 i := fun i => by rw [hg]; rfl
  have a147 : ∀ i, g' 147 i = g 147 i := fun i => by rw [hg]; rfl
  have a149 : ∀ i, g' 149 i = g 149 i := fun i => by rw [hg]; rfl
  have a150 : ∀ i, g' 150 i = g 150 i := fun i => by rw [hg]; rfl
  have a151 : ∀ i, g' 151 i = g 151 i := fun i => by rw [hg]; rfl
  clear hg
  have on : ∀ v : Nat, (v : Int) < g 0 0 → ow_new g ow v = ow v := fun v hv => by
    unfold ow_new
    rw [if_neg (by omega)]
  have un : ∀ {u}, pi_un g u → pi_un g' u := fun {u} ⟨x1, x2, x3, x4, x5⟩ => by
    refine ⟨by rw [z0]; omega, by rw [a124, if_neg (by omega)]; exact x2, by rw [a125, if_neg (by omega)]; exact x3, fun v hv => ?_, fun a ha => by rw [a126]; exact x5 a (by omega)⟩
    rw [a124, a125]
    by_cases c : v = (g 0 0).toNat
    · rw [if_pos c, if_pos c]; omega
    · rw [if_neg c, if_neg c]; exact x4 v (by omega)
  refine ⟨⟨⟨by omega, by omega, by omega, by omega, by omega, by omega⟩, fun i hi => ?_, fun i hi => ?_, fun i i1 hi => ?_, fun i j ij hj => ?_, fun i j i1 ij hj => ?_, fun v hv => ?_, fun a ha => ?_, fun f hf => ?_⟩, ?_⟩
  · have x := q1 i hi
    obtain ⟨x1, x2, x3, x4, x5, x6⟩ := x
    unfold pi_lev
    rw [a147, a149, a150, a151, z0, z1]
    refine ⟨x1, by omega, by omega, x4, fun y => ?_, x6⟩
    rw [on _ (by omega), a124, a125, if_neg (by omega), if_neg (by omega)]
    exact x5 y
  · rw [a146, z2]
    exact q2 i (by omega)
  · rw [a148]
    exact un (q3 i i1 (by omega))
  · rw [a149, a150, a148, a148]
    exact q4 i j ij (by omega)
  · rw [a149, a150, a148]
    exact q5 i j i1 ij hj
  · unfold pi_u
    by_cases c : v = (g 0 0).toNat
    · rw [a124, a125, if_pos c, if_pos c]
      refine ⟨by omega, by omega, fun x => by omega, fun x => by omega, Or.inl ?_⟩
      unfold ow_new
      rw [if_pos c, c]
    · obtain ⟨x1, x2, x3, x4, x5⟩ := q6 v (by omega)
      rw [a124, a125, if_neg c, if_neg c, on v (by omega)]
      refine ⟨by omega, by omega, fun y => ?_, fun y => ?_, ?_⟩
      · rw [on _ (by omega), a124, if_neg (by omega)]
        exact x3 y
      · rw [on _ (by omega)]
        exact x4 y
      · rcases x5 with x5 | ⟨x5, x6⟩
        · exact Or.inl x5
        · right
          rw [a124, if_neg (by omega)]
          exact ⟨by omega, x6⟩
  · obtain ⟨x1, x2⟩ := q7 a (by omega)
    rw [a126, z0]
    refine ⟨by omega, fun y => ?_⟩
    rw [on _ (by omega)]
    exact x2 y
  · rw [a130]
    exact q8 f (by omega)
  · refine ⟨by omega, by rw [a124, if_pos rfl], by rw [a125, if_pos rfl], fun v hv => ?_, fun a ha => ?_⟩
    · rw [a124, a125]
      by_cases c : v = (g 0 0).toNat
      · rw [if_pos c, if_pos c]; omega
      · rw [if_neg c, if_neg c]
        have := q6 v (by omega)
        unfold pi_u at this
        omega
    · rw [a126]
      have := (q7 a (by omega)).1
      omega
/-- a unit is hung up -/
def ow_put (g : wk_g) (ow : Nat → Nat) (u : Int) : Nat → Nat := fun v => if g 151 (g 0 5).toNat ≠ 0 ∧ v = u.toNat then (g 149 (g 0 5).toNat).toNat else ow v
theorem PI_put {u : Int} (hP : PI ow g (g 0 5)) (hu : pi_un g u) (ho : ∀ i : Nat, 1 ≤ i → (i : Int) ≤ g 0 5 → g 148 i < u) (hl : ∀ i : Nat, (i : Int) ≤ g 0 5 → g 149 i < u ∧ g 150 i < u) : PI (ow_put g ow u) (rf_put g u) (g 0 5) := by
  have hou := pi_uno hP hu
  obtain ⟨⟨p1, p2, p3, p4, p5, p6⟩, q1, q2, q3, q4, q5, q6, q7, q8⟩ := hP
  obtain ⟨g', hg⟩ : ∃ g', g' = rf_put g u := ⟨_, rfl⟩
  rw [← hg]
  have z : ∀ i, g' 0 i = g 0 i := fun i => by rw [hg]; rfl
  have K : ((g 0 5).toNat : Int) = g 0 5 := by omega
  obtain ⟨k, hk⟩ : ∃ k, k = (g 0 5).toNat := ⟨_, rfl⟩
  have a124 : ∀ i, g' 124 i = if g 151 k ≠ 0 ∧ i = (g 149 k).toNat then u else g 124 i := fun i => by rw [hg, hk]; rfl
  have a125 : ∀ i, g' 125 i = if g 151 k = 0 ∧ 0 ≤ g 149 k ∧ i = (g 149 k).toNat then u else g 125 i := fun i => by rw [hg, hk]; rfl
  have a126 : ∀ i, g' 126 i = if g 151 k = 0 ∧ g 149 k < 0 ∧ i = (g 147 k).toNat then u else g 126 i := fun i => by rw [hg, hk]; rfl
  have a130 : ∀ i, g' 130 i = g 130 i := fun i => by rw [hg]; rfl
  have a146 : ∀ i, g' 146 i = g 146 i := fun i => by rw [hg]; rfl
  have a148 : ∀ i, g' 148 i = g 148 i := fun i => by rw [hg]; rfl
  have a147 : ∀ i, g' 147 i = g 147 i := fun i => by rw [hg]; rfl
  have a149 : ∀ i, g' 149 i = if g 151 k = 0 ∧ i = k then u else g 149 i := fun i => by rw [hg, hk]; rfl
  have a150 : ∀ i, g' 150 i = if i = k then u else g 150 i := fun i => by rw [hg, hk]; rfl
  have a151 : ∀ i, g' 151 i = if i = k then 0 else g 151 i := fun i => by rw [hg, hk]; rfl
  have aow : ∀ v, ow_put g ow u v = if g 151 k ≠ 0 ∧ v = u.toNat then (g 149 k).toNat else ow v := fun v => by rw [hk]; rfl
  clear hg
  obtain ⟨⟨u0, u1⟩, u2, u3, u4, u5⟩ := hu
  obtain ⟨l1, l2, l3, l4, l5, l6⟩ := q1 k (by omega)
  have uk := hl k (by omega)
  have kI : (k : Int) = g 0 5 := by omega
  by_cases cs : g 151 k = 0
  · /- no pair -/
    have b124 : ∀ i, g' 124 i = g 124 i := fun i => by rw [a124, if_neg (fun x => x.1 cs)]
    have bow : ∀ v, ow_put g ow u v = ow v := fun v => by rw [aow, if_neg (fun x => x.1 cs)]
    have bow' : ow_put g ow u = ow := funext bow
    rw [bow']
    have b149 : ∀ i, g' 149 i = if i = k then u else g 149 i := fun i => by
      rw [a149]
      by_cases c : i = k
      · rw [if_pos ⟨cs, c⟩, if_pos c]
      · rw [if_neg (fun x => c x.2), if_neg c]
    have b125 : ∀ i : Nat, (i : Int) ≠ g 149 k → g' 125 i = g 125 i := fun i hi => by
      rw [a125, if_neg (fun x => by omega)]
    have un : ∀ {w}, w ≠ u → w ≠ g 149 k → pi_un g w → pi_un g' w := fun {w} n1 n2 ⟨⟨x0, x1⟩, x2, x3, x4, x5⟩ => by
      refine ⟨by rw [z]; omega, by rw [b124]; exact x2, by rw [b125 _ (by omega)]; exact x3, fun v hv => ?_, fun a ha => ?_⟩
      · rw [z] at hv
        rw [b124, a125]
        refine ⟨(x4 v hv).1, ?_⟩
        by_cases c : g 151 k = 0 ∧ 0 ≤ g 149 k ∧ v = (g 149 k).toNat
        · rw [if_pos c]; exact fun y => n1 y.symm
        · rw [if_neg c]; exact (x4 v hv).2
      · rw [z] at ha
        rw [a126]
        by_cases c : g 151 k = 0 ∧ g 149 k < 0 ∧ a = (g 147 k).toNat
        · rw [if_pos c]; exact fun y => n1 y.symm
        · rw [if_neg c]; exact x5 a ha
    refine ⟨by simp only [z]; exact ⟨p1, p2, p3, p4, p5, p6⟩, fun i hi => ?_, fun i hi => ?_, fun i i1 hi => ?_, fun i j ij hj => ?_, fun i j i1 ij hj => ?_, fun v hv => ?_, fun a ha => ?_, fun f hf => ?_⟩
    · unfold pi_lev
      rw [a147, b149, a150, a151, z, z]
      by_cases c : i = k
      · rw [if_pos c, if_pos c, if_pos c, b124, b125 _ (by omega), c]
        exact ⟨l1, by omega, by omega, by omega, fun _ => ⟨hou, u2, u3⟩, fun x => absurd rfl x⟩
      · rw [if_neg c, if_neg c, if_neg c, b124]
        obtain ⟨x1, x2, x3, x4, x5, x6⟩ := q1 i hi
        refine ⟨x1, x2, x3, x4, fun y => ?_, x6⟩
        have o1 := (q4 i k (by omega) (by omega)).1
        have ne : 0 ≤ g 149 k → g 149 i < g 149 k := fun y => by
          have := (q5 k k (by omega) (by omega) (by omega)).1 y
          omega
        rw [b125 _ (by omega)]
        exact x5 y
    · rw [a146, z]
      rw [z] at hi
      exact q2 i hi
    · rw [z] at hi
      rw [a148]
      refine un ?_ ?_ (q3 i i1 hi)
      · have := ho i i1 hi
        omega
      · intro y
        have := (q3 i i1 hi).1
        have := (q5 i k i1 (by omega) (by omega)).1 (by omega)
        omega
    · rw [z] at hj
      rw [b149, a150, a148, a148, if_neg (by omega), if_neg (by omega)]
      exact q4 i j ij hj
    · rw [b149, a150, a148]
      by_cases c : j = k
      · rw [if_pos c, if_pos c]
        have := ho i i1 (by omega)
        exact ⟨fun _ => this, fun _ => this⟩
      · rw [if_neg c, if_neg c]
        exact q5 i j i1 ij hj
    · rw [z] at hv
      obtain ⟨x1, x2, x3, x4, x5⟩ := q6 v hv
      unfold pi_u
      rw [b124, z, a125]
      refine ⟨x1, ?_, fun y => ?_, ?_, ?_⟩
      · by_cases c : g 151 k = 0 ∧ 0 ≤ g 149 k ∧ v = (g 149 k).toNat
        · rw [if_pos c]; omega
        · rw [if_neg c]; exact x2
      · rw [b124]; exact x3 y
      · by_cases c : g 151 k = 0 ∧ 0 ≤ g 149 k ∧ v = (g 149 k).toNat
        · rw [if_pos c]; exact fun _ => hou
        · rw [if_neg c]; exact x4
      · rw [b124]; exact x5
    · rw [z] at ha
      rw [a126, z]
      by_cases c : g 151 k = 0 ∧ g 149 k < 0 ∧ a = (g 147 k).toNat
      · rw [if_pos c]
        exact ⟨by omega, fun _ => hou⟩
      · rw [if_neg c]
        exact q7 a ha
    · rw [a130]
      rw [z] at hf
      exact q8 f hf
  · /- the second of a pair -/
    obtain ⟨w0, w1⟩ := l6 cs
    obtain ⟨v1, v2, v3⟩ := l5 (by omega)
    rw [w1] at v1 v2
    have b124 : ∀ i : Nat, g' 124 i = if (i : Int) = g 149 k then u else g 124 i := fun i => by
      rw [a124]
      by_cases c : (i : Int) = g 149 k
      · rw [if_pos ⟨cs, by omega⟩, if_pos c]
      · rw [if_neg (fun x => by omega), if_neg c]
    have b125 : ∀ i, g' 125 i = g 125 i := fun i => by rw [a125, if_neg (fun x => cs x.1)]
    have b126 : ∀ i, g' 126 i = g 126 i := fun i => by rw [a126, if_neg (fun x => cs x.1)]
    have b149 : ∀ i, g' 149 i = g 149 i := fun i => by rw [a149, if_neg (fun x => cs x.1)]
    have bow : ∀ v : Nat, ow_put g ow u v = if (v : Int) = u then (g 149 k).toNat else ow v := fun v => by
      rw [aow]
      by_cases c : (v : Int) = u
      · rw [if_pos ⟨cs, by omega⟩, if_pos c]
      · rw [if_neg (fun x => by omega), if_neg c]
    have un : ∀ {w}, w ≠ u → w ≠ g 149 k → pi_un g w → pi_un g' w := fun {w} n1 n2 ⟨⟨x0, x1⟩, x2, x3, x4, x5⟩ => by
      refine ⟨by rw [z]; omega, by rw [b124, if_neg (by omega)]; exact x2, by rw [b125]; exact x3, fun v hv => ?_, fun a ha => by rw [z] at ha; rw [b126]; exact x5 a ha⟩
      rw [z] at hv
      rw [b125, b124]
      refine ⟨?_, (x4 v hv).2⟩
      by_cases c : (v : Int) = g 149 k
      · rw [if_pos c]; exact fun y => n1 y.symm
      · rw [if_neg c]; exact (x4 v hv).1
    refine ⟨by simp only [z]; exact ⟨p1, p2, p3, p4, p5, p6⟩, fun i hi => ?_, fun i hi => ?_, fun i i1 hi => ?_, fun i j ij hj => ?_, fun i j i1 ij hj => ?_, fun v hv => ?_, fun a ha => ?_, fun f hf => ?_⟩
    · unfold pi_lev
      rw [a147, b149, a150, a151, z, z]
      by_cases c : i = k
      · rw [if_pos c, if_pos c, c]
        refine ⟨l1, l2, by omega, by omega, fun _ => ?_, fun x => absurd rfl x⟩
        rw [bow, if_pos (by omega), b124, if_neg (by omega), b125]
        exact ⟨rfl, u2, v3⟩
      · rw [if_neg c, if_neg c]
        obtain ⟨x1, x2, x3, x4, x5, x6⟩ := q1 i hi
        refine ⟨x1, x2, x3, x4, fun y => ?_, x6⟩
        have o1 := (q4 i k (by omega) (by omega)).1
        have ne := (q5 k k (by omega) (by omega) (by omega)).1 w0
        have ui := hl i (by omega)
        rw [bow, if_neg (by omega), b124, if_neg (by omega), b125]
        exact x5 y
    · rw [a146, z]
      rw [z] at hi
      exact q2 i hi
    · rw [z] at hi
      rw [a148]
      refine un ?_ ?_ (q3 i i1 hi)
      · have := ho i i1 hi
        omega
      · have := (q5 i k i1 (by omega) (by omega)).1 w0
        omega
    · rw [z] at hj
      rw [b149, a150, a148, a148, if_neg (by omega)]
      exact q4 i j ij hj
    · rw [b149, a150, a148]
      by_cases c : j = k
      · rw [if_pos c]
        have := ho i i1 (by omega)
        exact ⟨(q5 i j i1 ij hj).1, fun _ => this⟩
      · rw [if_neg c]
        exact q5 i j i1 ij hj
    · rw [z] at hv
      obtain ⟨x1, x2, x3, x4, x5⟩ := q6 v hv
      unfold pi_u
      rw [b124, z, b125]
      refine ⟨?_, x2, ?_, fun y => ?_, ?_⟩
      · by_cases c : (v : Int) = g 149 k
        · rw [if_pos c]; omega
        · rw [if_neg c]; exact x1
      · by_cases c : (v : Int) = g 149 k
        · rw [if_pos c]
          intro _
          rw [bow, if_pos (by omega), b124, if_neg (by omega)]
          exact ⟨by omega, u2⟩
        · rw [if_neg c]
          intro y
          have n1 := (u4 v hv).1
          obtain ⟨x31, x32⟩ := x3 y
          rw [bow, if_neg (by omega), b124]
          refine ⟨x31, ?_⟩
          by_cases c2 : ((g 124 v).toNat : Int) = g 149 k
          · exfalso
            have e2 : (g 124 v).toNat = (g 149 k).toNat := by omega
            rw [e2, v1] at x31
            omega
          · rw [if_neg c2]; exact x32
      · have n1 := (u4 v hv).2
        rw [bow, if_neg (by omega)]
        exact x4 y
      · rw [bow]
        by_cases c : (v : Int) = u
        · rw [if_pos c]
          right
          rw [b124, if_pos (by omega)]
          exact ⟨by omega, by omega⟩
        · rw [if_neg c]
          rcases x5 with x5 | ⟨x5, x6⟩
          · exact Or.inl x5
          · right
            refine ⟨x5, ?_⟩
            rw [b124]
            by_cases c2 : (ow v : Int) = g 149 k
            · exfalso
              have e2 : ow v = (g 149 k).toNat := by omega
              rw [e2, v2] at x6
              omega
            · rw [if_neg c2]; exact x6
    · rw [z] at ha
      rw [b126, z]
      obtain ⟨x1, x2⟩ := q7 a ha
      refine ⟨x1, fun y => ?_⟩
      have n1 := u5 a ha
      rw [bow, if_neg (by omega)]
      exact x2 y
    · rw [a130]
      rw [z] at hf
      exact q8 f hf
/-- a level is left -/
theorem PI_lvl (hP : PI ow g (g 0 5)) (hk : 0 < g 0 5) : PI ow (rf_lvl g (g 0 5 - 1)) (g 0 5 - 1) ∧ pi_un (rf_lvl g (g 0 5 - 1)) (g 148 (g 0 5).toNat) ∧ (∀ i : Nat, 1 ≤ i → (i : Int) ≤ g 0 5 - 1 → g 148 i < g 148 (g 0 5).toNat) ∧ ∀ i : Nat, (i : Int) ≤ g 0 5 - 1 → g 149 i < g 148 (g 0 5).toNat ∧ g 150 i < g 148 (g 0 5).toNat := by
  obtain ⟨⟨p1, p2, p3, p4, p5, p6⟩, q1, q2, q3, q4, q5, q6, q7, q8⟩ := hP
  refine ⟨⟨⟨p1, p2, p3, p4, p5, ?_⟩, fun i hi => q1 i (by omega), fun i hi => q2 i ?_, fun i i1 hi => q3 i i1 ?_, fun i j ij hj => q4 i j ij ?_, fun i j i1 ij hj => q5 i j i1 ij (by omega), q6, q7, q8⟩, q3 (g 0 5).toNat (by omega) (by omega), fun i i1 hi => (q4 i (g 0 5).toNat (by omega) (by omega)).2 i1, fun i hi => (q4 i (g 0 5).toNat (by omega) (by omega)).1⟩
  · show 0 ≤ g 0 5 - 1 ∧ g 0 5 - 1 ≤ 4
    omega
  · have h : (i : Int) ≤ g 0 5 - 1 := hi
    omega
  · have h : (i : Int) ≤ g 0 5 - 1 := hi
    omega
  · have h : (j : Int) ≤ g 0 5 - 1 := hj
    omega
/-- a level is opened over the unit u -/
theorem PI_open {u : Int} (hP : PI ow g (g 0 5)) (hu : pi_un g u) (hk : g 0 5 < 4) (hF : g 0 2 < g 0 0 + g 0 3) (ho : ∀ i : Nat, 1 ≤ i → (i : Int) ≤ g 0 5 → g 148 i < u) (hl : ∀ i : Nat, (i : Int) ≤ g 0 5 → g 149 i < u ∧ g 150 i < u) : PI ow (rf_o2 (rf_new (rf_o1 g u)) u (g 0 2)) (g 0 5) := by
  obtain ⟨⟨p1, p2, p3, p4, p5, p6⟩, q1, q2, q3, q4, q5, q6, q7, q8⟩ := hP
  obtain ⟨g', hg⟩ : ∃ g', g' = rf_o2 (rf_new (rf_o1 g u)) u (g 0 2) := ⟨_, rfl⟩
  rw [← hg]
  have z0 : g' 0 0 = g 0 0 := by rw [hg]; rfl
  have z1 : g' 0 1 = g 0 1 := by rw [hg]; rfl
  have z2 : g' 0 2 = g 0 2 + 1 := by rw [hg]; rfl
  have z3 : g' 0 3 = g 0 3 := by rw [hg]; rfl
  have z4 : g' 0 4 = g 0 4 := by rw [hg]; rfl
  have z5 : g' 0 5 = g 0 5 + 1 := by rw [hg]; rfl
  have a124 : ∀ i, g' 124 i = g 124 i := fun i => by rw [hg]; rfl
  have a125 : ∀ i, g' 125 i = g 125 i := fun i => by rw [hg]; rfl
  have a126 : ∀ i, g' 126 i = g 126 i := fun i => by rw [hg]; rfl
  have a130 : ∀ i, g' 130 i = if i = (g 0 2).toNat then 0 else g 130 i := fun i => by rw [hg]; rfl
  have a146 : ∀ i, g' 146 i = if i = (g 0 5 + 1).toNat then g 0 2 else g 146 i := fun i => by rw [hg]; rfl
  have a148 : ∀ i, g' 148 i = if i = (g 0 5 + 1).toNat then u else g 148 i := fun i => by rw [hg]; rfl
  have a147 : ∀ i, g' 147 i = g 147 i := fun i => by rw [hg]; rfl
  have a149 : ∀ i, g' 149 i = g 149 i := fun i => by rw [hg]; rfl
  have a150 : ∀ i, g' 150 i = g 150 i := fun i => by rw [hg]; rfl
  have a151 : ∀ i, g' 151 i = g 151 i := fun i => by rw [hg]; rfl
  clear hg
  have un : ∀ {w}, pi_un g w → pi_un g' w := fun {w} ⟨x1, x2, x3, x4, x5⟩ => by
    refine ⟨by rw [z0]; exact x1, by rw [a124]; exact x2, by rw [a125]; exact x3, fun v hv => by rw [a124, a125]; exact x4 v (by omega), fun a ha => by rw [a126]; exact x5 a (by omega)⟩
  refine ⟨⟨by omega, by omega, by omega, by omega, by omega, by omega⟩, fun i hi => ?_, fun i hi => ?_, fun i i1 hi => ?_, fun i j ij hj => ?_, fun i j i1 ij hj => ?_, fun v hv => ?_, fun a ha => ?_, fun f hf => ?_⟩
  · have x := q1 i hi
    unfold pi_lev at x ⊢
    simp only [a147, a149, a150, a151, a124, a125, z0, z1]
    exact x
  · rw [a146]
    by_cases c : i = (g 0 5 + 1).toNat
    · rw [if_pos c]; omega
    · rw [if_neg c]
      have := q2 i (by omega)
      omega
  · rw [a148]
    by_cases c : i = (g 0 5 + 1).toNat
    · rw [if_pos c]; exact un hu
    · rw [if_neg c]; exact un (q3 i i1 (by omega))
  · rw [a149, a150, a148, a148, if_neg (c := i = (g 0 5 + 1).toNat) (by omega)]
    by_cases c : j = (g 0 5 + 1).toNat
    · rw [if_pos c]
      exact ⟨hl i (by omega), fun i1 => ho i i1 (by omega)⟩
    · rw [if_neg c]
      exact q4 i j ij (by omega)
  · rw [a149, a150, a148, if_neg (by omega)]
    exact q5 i j i1 ij hj
  · have x := q6 v (by omega)
    unfold pi_u at x ⊢
    simp only [a124, a125, z0]
    exact x
  · rw [a126, z0]
    exact q7 a (by omega)
  · rw [a130]
    by_cases c : f = (g 0 2).toNat
    · rw [if_pos c]; decide
    · rw [if_neg c]; exact q8 f (by omega)
/-- a pair is announced -/
theorem PI_swap (hP : PI ow g (g 0 5)) (h1 : 0 ≤ g 149 (g 0 5).toNat) (h2 : g 150 (g 0 5).toNat = g 149 (g 0 5).toNat) : PI ow (rf_swap g) (g 0 5) := by
  obtain ⟨pp, q1, qR⟩ := hP
  refine ⟨pp, fun i hi => ?_, qR⟩
  obtain ⟨x1, x2, x3, x4, x5, x6⟩ := q1 i hi
  refine ⟨x1, x2, x3, x4, x5, fun y => ?_⟩
  by_cases c : i = (g 0 5).toNat
  · rw [c]
    exact ⟨h1, h2⟩
  · have y2 : (if i = (g 0 5).toNat then 1 else g 151 i) ≠ 0 := y
    rw [if_neg c] at y2
    exact x6 y2
/-- a rule is begun -/
theorem PI_rule {v p : Int} (hP : PR ow g) (hR : g 0 3 < 10) : PI ow (rf_rule g v p) (-1) := by
  obtain ⟨⟨p1, p2, p3, p4, p5⟩, q6, q7, q8⟩ := hP
  obtain ⟨g', hg⟩ : ∃ g', g' = rf_rule g v p := ⟨_, rfl⟩
  rw [← hg]
  have z0 : g' 0 0 = g 0 0 := by rw [hg]; rfl
  have z1 : g' 0 1 = g 0 1 := by rw [hg]; rfl
  have z2 : g' 0 2 = g 0 2 + 1 := by rw [hg]; rfl
  have z3 : g' 0 3 = g 0 3 + 1 := by rw [hg]; rfl
  have z4 : g' 0 4 = g 0 4 := by rw [hg]; rfl
  have z5 : g' 0 5 = 0 := by rw [hg]; rfl
  have a124 : ∀ i, g' 124 i = g 124 i := fun i => by rw [hg]; rfl
  have a125 : ∀ i, g' 125 i = g 125 i := fun i => by rw [hg]; rfl
  have a126 : ∀ i, g' 126 i = g 126 i := fun i => by rw [hg]; rfl
  have a130 : ∀ i, g' 130 i = if i = (g 0 2).toNat then 0 else g 130 i := fun i => by rw [hg]; rfl
  have a146 : ∀ i, g' 146 i = if i = 0 then g 0 2 else g 146 i := fun i => by rw [hg]; rfl
  clear hg
  refine ⟨⟨by omega, by omega, by omega, by omega, by omega, by omega⟩, fun i hi => by omega, fun i hi => ?_, fun i i1 hi => by omega, fun i j ij hj => by omega, fun i j i1 ij hj => by omega, fun w hv => ?_, fun a ha => ?_, fun f hf => ?_⟩
  · rw [a146, if_pos (by omega)]
    omega
  · have x := q6 w (by omega)
    unfold pi_u at x ⊢
    simp only [a124, a125, z0]
    exact x
  · rw [a126, z0]
    exact q7 a (by omega)
  · rw [a130]
    by_cases c : f = (g 0 2).toNat
    · rw [if_pos c]; decide
    · rw [if_neg c]; exact q8 f (by omega)
end PIL
